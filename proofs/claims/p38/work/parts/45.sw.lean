/-! ===== the world of a SoupTable ===== -/
/-- where the cells of the table i begin: 0 the table, 1 ahead, 2 saved, 3 to 11 before and past -/
def tof (i : Nat) : Nat := if i < 3 then 11 * i + 1 else if i = 3 then 35 else 11 * i + 7
def tno (d : Nat) : Nat := if d < 34 then (d - 1) / 11 else if d < 46 then 3 else (d - 7) / 11
def updT {α : Type} (T : Nat → α) (i : Nat) (s : α) : Nat → α := fun j => if j = i then s else T j
theorem updT_s {α : Type} {T : Nat → α} {i : Nat} {s : α} : updT T i s i = s := if_pos rfl
theorem updT_o {α : Type} {T : Nat → α} {i j : Nat} {s : α} (h : j ≠ i) : updT T i s j = T j := if_neg h
theorem updT_id {α : Type} {T : Nat → α} {i : Nat} : updT T i (T i) = T := by
  funext j
  unfold updT
  split
  · rename_i h; rw [h]
  · rfl
def sob (x be : Nat) (Z : Nat → Int32) : List Value := [.ref (x + 1), .ref (x + 12), .ref (x + 23), .int (Z 3), .ref (x + 34), .int (Z 5), .ref (x + tof be), .ref (x + 46), .int (Z 8), .ref (x + 49), .ref (x + 50), .int (Z 11)]
/-- the cells of a SoupTable at x over the world w: its tables, the order of past, before, its own numbers, the text, the refusal, the letters -/
def SW (w : Wld) (x : Nat) (T : Nat → Tb) (pa : Nat → Nat) (be : Nat) (Z P C D R Lt : Nat → Int32) : Wld := fun a =>
  if a = x then some (.inr (4, sob x be Z)) else if a = x + 34 then some (.inl (5, 8, fun k => .ref (x + tof (pa k)))) else if a = x + 50 then some (.inl (1, 40, fun k => .int (Lt k)))
  else if a = x + 49 then some (.inr (0, [.int (R 0), .int (R 1), .int (R 2)])) else if x + 46 ≤ a ∧ a < x + 49 then txt w (x + 46) P C D a
  else if x + 1 ≤ a ∧ a < x + 139 then bk w (x + tof (tno (a - x))) (T (tno (a - x))) a else w a
section SWS
variable {w : Wld} {x : Nat} {T : Nat → Tb} {pa : Nat → Nat} {be : Nat} {Z P C D R Lt : Nat → Int32}
theorem SW_x : SW w x T pa be Z P C D R Lt x = some (.inr (4, sob x be Z)) := if_pos rfl
theorem SW_34 : SW w x T pa be Z P C D R Lt (x + 34) = some (.inl (5, 8, fun k => .ref (x + tof (pa k)))) := by unfold SW; rw [if_neg (by omega), if_pos rfl]
theorem SW_50 : SW w x T pa be Z P C D R Lt (x + 50) = some (.inl (1, 40, fun k => .int (Lt k))) := by unfold SW; rw [if_neg (by omega), if_neg (by omega), if_pos rfl]
theorem SW_49 : SW w x T pa be Z P C D R Lt (x + 49) = some (.inr (0, [.int (R 0), .int (R 1), .int (R 2)])) := by unfold SW; rw [if_neg (by omega), if_neg (by omega), if_neg (by omega), if_pos rfl]
theorem SW_46 {a : Nat} (h : x + 46 ≤ a ∧ a < x + 49) : SW w x T pa be Z P C D R Lt a = txt w (x + 46) P C D a := by unfold SW; rw [if_neg (by omega), if_neg (by omega), if_neg (by omega), if_neg (by omega), if_pos h]
theorem tno_of {i d : Nat} (hi : i < 12) (h1 : tof i ≤ d) (h2 : d < tof i + 11) : tno d = i ∧ d ≠ 0 ∧ d ≠ 34 ∧ d ≠ 50 ∧ d ≠ 49 ∧ ¬ (46 ≤ d ∧ d < 49) ∧ 1 ≤ d ∧ d < 139 := by
  unfold tof at h1 h2
  unfold tno
  by_cases a : i < 3
  · rw [if_pos a] at h1 h2
    rw [if_pos (by omega)]
    omega
  · rw [if_neg a] at h1 h2
    by_cases b : i = 3
    · rw [if_pos b] at h1 h2
      rw [if_neg (by omega), if_pos (by omega)]
      omega
    · rw [if_neg b] at h1 h2
      rw [if_neg (by omega), if_neg (by omega)]
      omega
theorem SW_tab {i a : Nat} (hi : i < 12) (h1 : x + tof i ≤ a) (h2 : a < x + tof i + 11) : SW w x T pa be Z P C D R Lt a = bk w (x + tof i) (T i) a := by
  obtain ⟨e1, e2, e3, e4, e5, e6, e7, e8⟩ := tno_of (i := i) (d := a - x) hi (by omega) (by omega)
  unfold SW
  rw [if_neg (by omega), if_neg (by omega), if_neg (by omega), if_neg (by omega), if_neg (by omega), if_pos (by omega), e1]
theorem bk_in {w w2 : Wld} {t : Nat} {s : Tb} {a : Nat} (h1 : t ≤ a) (h2 : a < t + 11) : bk w t s a = bk w2 t s a := by
  unfold bk blk
  by_cases a1 : a = t
  · rw [if_pos a1, if_pos a1]
  · by_cases a2 : a = t + 1
    · rw [if_neg a1, if_pos a2, if_neg a1, if_pos a2]
    · by_cases a3 : a = t + 2
      · rw [if_neg a1, if_neg a2, if_pos a3, if_neg a1, if_neg a2, if_pos a3]
      · rw [if_neg a1, if_neg a2, if_neg a3, if_pos (by omega), if_neg a1, if_neg a2, if_neg a3, if_pos (by omega)]
/-- a table's cells written: the world of the SoupTable with that table -/
theorem SW_up {i : Nat} (hi : i < 12) {s : Tb} : bk (SW w x T pa be Z P C D R Lt) (x + tof i) s = SW w x (updT T i s) pa be Z P C D R Lt := by
  funext a
  by_cases h : x + tof i ≤ a ∧ a < x + tof i + 11
  · rw [SW_tab (T := updT T i s) hi h.1 h.2, updT_s]
    exact bk_in h.1 h.2
  · have e : bk (SW w x T pa be Z P C D R Lt) (x + tof i) s a = SW w x T pa be Z P C D R Lt a := blk_out (by omega)
    rw [e]
    unfold SW
    by_cases h2 : x + 1 ≤ a ∧ a < x + 139
    · by_cases h3 : tno (a - x) = i
      · by_cases q1 : a = x + 34
        · rw [if_neg (by omega), if_pos q1, if_neg (by omega), if_pos q1]
        by_cases q2 : a = x + 50
        · rw [if_neg (by omega), if_neg q1, if_pos q2, if_neg (by omega), if_neg q1, if_pos q2]
        by_cases q3 : a = x + 49
        · rw [if_neg (by omega), if_neg q1, if_neg q2, if_pos q3, if_neg (by omega), if_neg q1, if_neg q2, if_pos q3]
        by_cases q4 : x + 46 ≤ a ∧ a < x + 49
        · rw [if_neg (by omega), if_neg q1, if_neg q2, if_neg q3, if_pos q4, if_neg (by omega), if_neg q1, if_neg q2, if_neg q3, if_pos q4]
        exfalso
        apply h
        subst h3
        unfold tno tof
        by_cases d1 : a - x < 34
        · rw [if_pos d1]
          have : (a - x - 1) / 11 < 3 := by omega
          rw [if_pos this]
          omega
        · rw [if_neg d1]
          by_cases d2 : a - x < 46
          · rw [if_pos d2]
            simp only [Nat.reduceLT, if_false, if_true]
            omega
          · rw [if_neg d2, if_neg (by omega), if_neg (by omega)]
            omega
      · rw [updT_o h3]
    · rw [if_neg h2, if_neg h2]
theorem SW_id {i : Nat} (hi : i < 12) : bk (SW w x T pa be Z P C D R Lt) (x + tof i) (T i) = SW w x T pa be Z P C D R Lt := by
  rw [SW_up hi, updT_id]
theorem SW_R {R2 : Nat → Int32} : rfc (SW w x T pa be Z P C D R Lt) (x + 49) R2 = SW w x T pa be Z P C D R2 Lt := by
  funext a
  unfold rfc SW
  by_cases h : a = x + 49
  · rw [if_pos h, if_neg (by omega), if_neg (by omega), if_neg (by omega), if_pos h]
  · rw [if_neg h, if_neg h, if_neg h]
theorem txt_in {w w2 : Wld} {t : Nat} {P C D : Nat → Int32} {a : Nat} (h1 : t ≤ a) (h2 : a < t + 3) : txt w t P C D a = txt w2 t P C D a := by
  unfold txt
  by_cases a1 : a = t
  · rw [if_pos a1, if_pos a1]
  · by_cases a2 : a = t + 1
    · rw [if_neg a1, if_pos a2, if_neg a1, if_pos a2]
    · rw [if_neg a1, if_neg a2, if_pos (by omega), if_neg a1, if_neg a2, if_pos (by omega)]
theorem txt_out {w : Wld} {t : Nat} {P C D : Nat → Int32} {a : Nat} (h : a < t ∨ t + 3 ≤ a) : txt w t P C D a = w a := by
  unfold txt
  rw [if_neg (by omega), if_neg (by omega), if_neg (by omega)]
theorem SW_X {P2 C2 D2 : Nat → Int32} : txt (SW w x T pa be Z P C D R Lt) (x + 46) P2 C2 D2 = SW w x T pa be Z P2 C2 D2 R Lt := by
  funext a
  by_cases h : x + 46 ≤ a ∧ a < x + 49
  · rw [SW_46 h]
    exact txt_in h.1 h.2
  · rw [txt_out (by omega)]
    unfold SW
    rw [if_neg h, if_neg h]
theorem gz0 : gf (SW w x T pa be Z P C D R Lt) x 4 0 = some (.ref (x + 1)) := by unfold gf; rw [SW_x]; rfl
theorem gz1 : gf (SW w x T pa be Z P C D R Lt) x 4 1 = some (.ref (x + 12)) := by unfold gf; rw [SW_x]; rfl
theorem gz2 : gf (SW w x T pa be Z P C D R Lt) x 4 2 = some (.ref (x + 23)) := by unfold gf; rw [SW_x]; rfl
theorem gz3 : gf (SW w x T pa be Z P C D R Lt) x 4 3 = some (.int (Z 3)) := by unfold gf; rw [SW_x]; rfl
theorem gz4 : gf (SW w x T pa be Z P C D R Lt) x 4 4 = some (.ref (x + 34)) := by unfold gf; rw [SW_x]; rfl
theorem gz5 : gf (SW w x T pa be Z P C D R Lt) x 4 5 = some (.int (Z 5)) := by unfold gf; rw [SW_x]; rfl
theorem gz6 : gf (SW w x T pa be Z P C D R Lt) x 4 6 = some (.ref (x + tof be)) := by unfold gf; rw [SW_x]; rfl
theorem gz7 : gf (SW w x T pa be Z P C D R Lt) x 4 7 = some (.ref (x + 46)) := by unfold gf; rw [SW_x]; rfl
theorem gz8 : gf (SW w x T pa be Z P C D R Lt) x 4 8 = some (.int (Z 8)) := by unfold gf; rw [SW_x]; rfl
theorem gz9 : gf (SW w x T pa be Z P C D R Lt) x 4 9 = some (.ref (x + 49)) := by unfold gf; rw [SW_x]; rfl
theorem gz10 : gf (SW w x T pa be Z P C D R Lt) x 4 10 = some (.ref (x + 50)) := by unfold gf; rw [SW_x]; rfl
theorem gz11 : gf (SW w x T pa be Z P C D R Lt) x 4 11 = some (.int (Z 11)) := by unfold gf; rw [SW_x]; rfl
theorem cz : hasc (SW w x T pa be Z P C D R Lt) x 4 = true := by unfold hasc; rw [SW_x]; rfl
theorem SW_t {i : Nat} (hi : i < 12) : SW w x T pa be Z P C D R Lt (x + tof i) = some (.inr (2, tfs (x + tof i) (T i).1)) := by
  rw [SW_tab hi (Nat.le_refl _) (by omega)]
  exact blk_t
theorem czT {i : Nat} (hi : i < 12) : hasc (SW w x T pa be Z P C D R Lt) (x + tof i) 2 = true := by unfold hasc; rw [SW_t hi]; rfl
theorem cz0 : hasc (SW w x T pa be Z P C D R Lt) (x + 1) 2 = true := czT (i := 0) (by decide)
theorem cz1 : hasc (SW w x T pa be Z P C D R Lt) (x + 12) 2 = true := czT (i := 1) (by decide)
theorem cz2 : hasc (SW w x T pa be Z P C D R Lt) (x + 23) 2 = true := czT (i := 2) (by decide)
theorem czX : hasc (SW w x T pa be Z P C D R Lt) (x + 46) 3 = true := by unfold hasc; rw [SW_46 (by omega), txt_t]; rfl
theorem czR : hasc (SW w x T pa be Z P C D R Lt) (x + 49) 0 = true := by unfold hasc; rw [SW_49]; rfl
theorem gzR {j : Nat} (hj : j < 3) : gf (SW w x T pa be Z P C D R Lt) (x + 49) 0 j = some (.int (R j)) := by
  unfold gf; rw [SW_49]
  rcases (show j = 0 ∨ j = 1 ∨ j = 2 by omega) with rfl | rfl | rfl <;> rfl
theorem gzX {j : Nat} (h1 : 1 ≤ j) (hj : j < 4) : gf (SW w x T pa be Z P C D R Lt) (x + 46) 3 j = some (.int (P j)) := by
  unfold gf; rw [SW_46 (by omega), txt_t]
  rcases (show j = 1 ∨ j = 2 ∨ j = 3 by omega) with rfl | rfl | rfl <;> rfl
theorem gzX0 : gf (SW w x T pa be Z P C D R Lt) (x + 46) 3 0 = some (.ref (x + 47)) := by unfold gf; rw [SW_46 (by omega), txt_t]; rfl
theorem gzX4 : gf (SW w x T pa be Z P C D R Lt) (x + 46) 3 4 = some (.ref (x + 48)) := by unfold gf; rw [SW_46 (by omega), txt_t]; rfl
theorem gzN {k : Nat} (h : k < 3) : ga (SW w x T pa be Z P C D R Lt) (x + 48) 0 (nI k) = some (.int (D k)) := by
  rw [← SW_X (P := P) (C := C) (D := D) (P2 := P) (C2 := C) (D2 := D)]
  exact gdx h
theorem gzT {i j : Nat} (hi : i < 12) {v : Option Value} (h : gf (bk (SW w x T pa be Z P C D R Lt) (x + tof i) (T i)) (x + tof i) 2 j = v) : gf (SW w x T pa be Z P C D R Lt) (x + tof i) 2 j = v := by rw [← h, SW_id hi]
theorem gtb {j : Nat} (h1 : 2 ≤ j) (h2 : j < 8) : gf (SW w x T pa be Z P C D R Lt) (x + 1) 2 j = some (.int ((T 0).1 j)) := by
  refine gzT (i := 0) (by decide) ?_
  rcases (show j = 2 ∨ j = 3 ∨ j = 4 ∨ j = 5 ∨ j = 6 ∨ j = 7 by omega) with rfl | rfl | rfl | rfl | rfl | rfl
  · exact gt2
  · exact gt3
  · exact gt4
  · exact gt5
  · exact gt6
  · exact gt7
theorem gtb0 : gf (SW w x T pa be Z P C D R Lt) (x + 1) 2 0 = some (.ref (x + 1 + 1)) := gzT (i := 0) (by decide) gt0
theorem gtb1 : gf (SW w x T pa be Z P C D R Lt) (x + 1) 2 1 = some (.ref (x + 1 + 2)) := gzT (i := 0) (by decide) gt1
theorem SW_id0 : bk (SW w x T pa be Z P C D R Lt) (x + 1) (T 0) = SW w x T pa be Z P C D R Lt := SW_id (i := 0) (by decide)
theorem SW_up0 {s : Tb} : bk (SW w x T pa be Z P C D R Lt) (x + 1) s = SW w x (updT T 0 s) pa be Z P C D R Lt := SW_up (i := 0) (by decide)
theorem gtbq {k : Nat} (h : k < 8) : (ga (SW w x T pa be Z P C D R Lt) (x + 1 + 1) 4 (nI k)).or (ga (SW w x T pa be Z P C D R Lt) (x + 1 + 1) 5 (nI k)) = some (.ref (x + 1 + 3 + k)) := by rw [← SW_id0]; exact gq h
theorem gtbh {k : Nat} (h : k < 8) : ga (SW w x T pa be Z P C D R Lt) (x + 1 + 2) 0 (nI k) = some (.int ((T 0).2.1 k)) := by rw [← SW_id0]; exact gh h
theorem gtbs {k j : Nat} (h : k < 8) (hj : j < 9) : gf (SW w x T pa be Z P C D R Lt) (x + 1 + 3 + k) 1 j = some (.int ((T 0).2.2 k j)) := by rw [← SW_id0]; exact gs h hj
theorem cz1s {k : Nat} (h : k < 8) : hasc (SW w x T pa be Z P C D R Lt) (x + 1 + 3 + k) 1 = true := by rw [← SW_id0]; exact hs_ h
/-- a number of the SoupTable's own written: 3, 5, 8, 11 -/
theorem pz {j : Nat} (hj : j = 3 ∨ j = 5 ∨ j = 8 ∨ j = 11) {v : Int32} (hv : j = 3 → okv .boolean (.int v) = true) : pf (SW w x T pa be Z P C D R Lt) x 4 j (.int v) = some (SW w x T pa be (upd Z j v) P C D R Lt) := by
  have hty : okv (fty 4 j) (.int v) = true := by
    rcases hj with rfl | rfl | rfl | rfl
    · exact hv rfl
    · rfl
    · rfl
    · rfl
  unfold pf
  rw [SW_x]
  dsimp only
  rw [if_pos ⟨rfl, by show j < 12; omega, hty⟩]
  congr 1
  refine wset_same ?_ (fun b hb => ?_)
  · rw [SW_x]
    rcases hj with rfl | rfl | rfl | rfl <;> rfl
  · unfold SW
    rw [if_neg hb, if_neg hb]
theorem pzR {j : Nat} (hj : j < 3) {v : Int32} : pf (SW w x T pa be Z P C D R Lt) (x + 49) 0 j (.int v) = some (SW w x T pa be Z P C D (upd R j v) Lt) := by
  have hty : okv (fty 0 j) (.int v) = true := by
    rcases (show j = 0 ∨ j = 1 ∨ j = 2 by omega) with rfl | rfl | rfl <;> rfl
  unfold pf
  rw [SW_49]
  dsimp only
  rw [if_pos ⟨rfl, by show j < 3; exact hj, hty⟩]
  congr 1
  refine wset_same ?_ (fun b hb => ?_)
  · rw [SW_49]
    rcases (show j = 0 ∨ j = 1 ∨ j = 2 by omega) with rfl | rfl | rfl <;> rfl
  · unfold SW
    rw [if_neg hb, if_neg hb]
theorem pzX {j : Nat} (h1 : 1 ≤ j) (h2 : j < 4) {v : Int32} : pf (SW w x T pa be Z P C D R Lt) (x + 46) 3 j (.int v) = some (SW w x T pa be Z (upd P j v) C D R Lt) := by
  rw [← SW_X (P := P) (C := C) (D := D) (P2 := P) (C2 := C) (D2 := D), px h1 h2, SW_X]
theorem pz6 {i : Nat} : pf (SW w x T pa be Z P C D R Lt) x 4 6 (.ref (x + tof i)) = some (SW w x T pa i Z P C D R Lt) := by
  unfold pf
  rw [SW_x]
  dsimp only
  rw [if_pos ⟨rfl, by show 6 < 12; decide, rfl⟩]
  congr 1
  refine wset_same ?_ (fun b hb => ?_)
  · rw [SW_x]; rfl
  · unfold SW
    rw [if_neg hb, if_neg hb]
theorem gza {k : Nat} (h : k < 8) : (ga (SW w x T pa be Z P C D R Lt) (x + 34) 4 (nI k)).or (ga (SW w x T pa be Z P C D R Lt) (x + 34) 5 (nI k)) = some (.ref (x + tof (pa k))) := by
  unfold ga
  rw [SW_34]
  dsimp only
  rw [if_neg (fun q => absurd q.1 (by decide)), if_pos ⟨rfl, inr_nI h (by decide)⟩, nI_clamp (by omega)]
  rfl
theorem sza {k i : Nat} (h : k < 8) (hi : i < 12) : saq (SW w x T pa be Z P C D R Lt) (x + 34) (nI k) (x + tof i) = some (SW w x T (updT pa k i) be Z P C D R Lt) := by
  have h1 : hasc (SW w x T pa be Z P C D R Lt) (x + tof i) 1 = false := by unfold hasc; rw [SW_t hi]; rfl
  have h2 := czT (w := w) (x := x) (T := T) (pa := pa) (be := be) (Z := Z) (P := P) (C := C) (D := D) (R := R) (Lt := Lt) hi
  have h3 : sa (SW w x T pa be Z P C D R Lt) (x + 34) 5 (nI k) (.ref (x + tof i)) = some (SW w x T (updT pa k i) be Z P C D R Lt) := by
    unfold sa
    rw [SW_34]
    dsimp only
    rw [if_pos ⟨rfl, inr_nI h (by decide)⟩, nI_clamp (by omega)]
    congr 1
    refine wset_same ?_ (fun b hb => ?_)
    · rw [SW_34]
      congr 4
      funext q
      unfold updV updT
      split <;> rfl
    · unfold SW
      rw [if_neg hb, if_neg hb]
  unfold saq
  rw [h1, h2, h3]
theorem gzL {k : Nat} (h : k < 40) : ga (SW w x T pa be Z P C D R Lt) (x + 50) 1 (nI k) = some (.int (Lt k)) := by
  unfold ga
  rw [SW_50]
  dsimp only
  rw [if_pos ⟨rfl, inr_nI h (by decide)⟩, nI_clamp (by omega)]
theorem szL {k : Nat} (h : k < 40) {v : Int32} : sa (SW w x T pa be Z P C D R Lt) (x + 50) 1 (nI k) (.int v) = some (SW w x T pa be Z P C D R (upd Lt k v)) := by
  unfold sa
  rw [SW_50]
  dsimp only
  rw [if_pos ⟨rfl, inr_nI h (by decide)⟩, nI_clamp (by omega)]
  congr 1
  refine wset_same ?_ (fun b hb => ?_)
  · rw [SW_50]
    congr 4
    funext q
    unfold updV upd
    split <;> rfl
  · unfold SW
    by_cases a1 : b = x
    · rw [if_pos a1, if_pos a1]
    by_cases a2 : b = x + 34
    · rw [if_neg a1, if_pos a2, if_neg a1, if_pos a2]
    rw [if_neg a1, if_neg a2, if_neg hb, if_neg a1, if_neg a2, if_neg hb]
theorem szC {k : Nat} (h : k < 60) {v : Int32} : sa (SW w x T pa be Z P C D R Lt) (x + 47) 1 (nI k) (.int v) = some (SW w x T pa be Z P (upd C k v) D R Lt) := by
  rw [← SW_X (P := P) (C := C) (D := D) (P2 := P) (C2 := C) (D2 := D)]
  unfold sa
  rw [show x + 47 = x + 46 + 1 from rfl, txt_1]
  dsimp only
  rw [if_pos ⟨rfl, inr_nI h (by decide)⟩, nI_clamp (by omega)]
  congr 1
  rw [← SW_X (P := P) (C := C) (D := D) (P2 := P) (C2 := upd C k v) (D2 := D)]
  refine wset_same ?_ (fun b hb => ?_)
  · rw [txt_1]
    congr 4
    funext q
    unfold updV upd
    split <;> rfl
  · unfold txt
    by_cases a1 : b = x + 46
    · rw [if_pos a1, if_pos a1]
    · rw [if_neg a1, if_neg hb, if_neg a1, if_neg hb]
end SWS
