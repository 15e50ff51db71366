/-! ===== the world of the law: the class at x, the reference behind it, the two arrays for answers ===== -/
def outW (w : Wld) (o : Nat) (l d : Nat → Value) : Wld := fun a => if a = o then some (.inl (2, 1, l)) else if a = o + 1 then some (.inl (3, 1, d)) else w a
def FW (w : Wld) (x : Nat) (T : Nat → Tb) (pa : Nat → Nat) (be : Nat) (Z P C D R Lt V N : Nat → Int32) (A : Nat → Nat → Int32) (l d : Nat → Value) : Wld := outW (MW (SW w x T pa be Z P C D R Lt) (x + 139) V N A) (x + 148) l d
theorem tno_in {d : Nat} (h1 : 1 ≤ d) (h2 : d < 139) (h3 : d ≠ 34) (h4 : d ≠ 49) (h5 : d ≠ 50) (h6 : ¬ (46 ≤ d ∧ d < 49)) : tof (tno d) ≤ d ∧ d < tof (tno d) + 11 := by
  unfold tno
  by_cases a : d < 34
  · rw [if_pos a]
    have : (d - 1) / 11 < 3 := by omega
    unfold tof
    rw [if_pos this]
    omega
  · rw [if_neg a]
    by_cases b : d < 46
    · rw [if_pos b]
      unfold tof
      rw [if_neg (by omega), if_pos rfl]
      omega
    · rw [if_neg b]
      have e1 : ¬ (d - 7) / 11 < 3 := by omega
      have e2 : ¬ (d - 7) / 11 = 3 := by omega
      unfold tof
      rw [if_neg e1, if_neg e2]
      omega
section FWS
variable {w w2 : Wld} {x : Nat} {T : Nat → Tb} {pa : Nat → Nat} {be : Nat} {Z P C D R Lt V N : Nat → Int32} {A : Nat → Nat → Int32} {l d : Nat → Value} {v : Value} {a : Nat}
theorem SW_out (h : a < x ∨ x + 139 ≤ a) : SW w x T pa be Z P C D R Lt a = w a := by
  unfold SW
  rw [if_neg (by omega), if_neg (by omega), if_neg (by omega), if_neg (by omega), if_neg (by omega), if_neg (by omega)]
theorem SW_in (h1 : x ≤ a) (h2 : a < x + 139) : SW w x T pa be Z P C D R Lt a = SW w2 x T pa be Z P C D R Lt a := by
  unfold SW
  by_cases c0 : a = x
  · rw [if_pos c0, if_pos c0]
  rw [if_neg c0, if_neg c0]
  by_cases c1 : a = x + 34
  · rw [if_pos c1, if_pos c1]
  rw [if_neg c1, if_neg c1]
  by_cases c2 : a = x + 50
  · rw [if_pos c2, if_pos c2]
  rw [if_neg c2, if_neg c2]
  by_cases c3 : a = x + 49
  · rw [if_pos c3, if_pos c3]
  rw [if_neg c3, if_neg c3]
  by_cases c4 : x + 46 ≤ a ∧ a < x + 49
  · rw [if_pos c4, if_pos c4]
    exact txt_in c4.1 (by omega)
  rw [if_neg c4, if_neg c4, if_pos (by omega), if_pos (by omega)]
  obtain ⟨g1, g2⟩ := tno_in (d := a - x) (by omega) (by omega) (by omega) (by omega) (by omega) (by omega)
  exact bk_in (by omega) (by omega)
theorem MW_out {m : Nat} (h : a < m ∨ m + 9 ≤ a) : MW w m V N A a = w a := by
  unfold MW
  rw [if_neg (by omega), if_neg (by omega), if_neg (by omega)]
theorem MW_in {m : Nat} (h1 : m ≤ a) (h2 : a < m + 9) : MW w m V N A a = MW w2 m V N A a := by
  unfold MW
  by_cases c0 : a = m
  · rw [if_pos c0, if_pos c0]
  rw [if_neg c0, if_neg c0]
  by_cases c1 : a = m + 1
  · rw [if_pos c1, if_pos c1]
  rw [if_neg c1, if_neg c1, if_pos (by omega), if_pos (by omega)]
theorem outW_o {o : Nat} (h : a < o ∨ o + 2 ≤ a) : outW w o l d a = w a := by
  unfold outW
  rw [if_neg (by omega), if_neg (by omega)]
theorem outW_in {o : Nat} (h1 : o ≤ a) (h2 : a < o + 2) : outW w o l d a = outW w2 o l d a := by
  unfold outW
  by_cases c0 : a = o
  · rw [if_pos c0, if_pos c0]
  rw [if_neg c0, if_neg c0, if_pos (by omega), if_pos (by omega)]
/-- as a world of the class -/
theorem FW_S : FW w x T pa be Z P C D R Lt V N A l d = SW (outW (MW w (x + 139) V N A) (x + 148) l d) x T pa be Z P C D R Lt := by
  funext a
  unfold FW
  by_cases c1 : a < x
  · rw [outW_o (by omega), MW_out (by omega), SW_out (by omega), SW_out (by omega), outW_o (by omega), MW_out (by omega)]
  by_cases c2 : a < x + 139
  · rw [outW_o (by omega), MW_out (by omega)]
    exact SW_in (by omega) c2
  rw [SW_out (w := outW (MW w (x + 139) V N A) (x + 148) l d) (by omega)]
  by_cases c3 : a < x + 148
  · rw [outW_o (by omega), outW_o (by omega)]
    exact MW_in (by omega) (by omega)
  by_cases c4 : a < x + 150
  · exact outW_in (by omega) (by omega)
  · rw [outW_o (by omega), outW_o (by omega), MW_out (by omega), MW_out (by omega), SW_out (by omega)]
/-- as a world of the reference -/
theorem FW_M : FW w x T pa be Z P C D R Lt V N A l d = MW (outW (SW w x T pa be Z P C D R Lt) (x + 148) l d) (x + 139) V N A := by
  funext a
  unfold FW
  by_cases c3 : a < x + 148
  · rw [outW_o (by omega)]
    by_cases c4 : a < x + 139
    · rw [MW_out (by omega), MW_out (by omega), outW_o (by omega)]
    · exact MW_in (by omega) (by omega)
  · rw [MW_out (w := outW (SW w x T pa be Z P C D R Lt) (x + 148) l d) (by omega)]
    by_cases c4 : a < x + 150
    · exact outW_in (by omega) (by omega)
    · rw [outW_o (by omega), outW_o (by omega), MW_out (by omega)]
theorem fw_x : hasc (FW w x T pa be Z P C D R Lt V N A l d) x 4 = true := by rw [FW_S]; exact cz
theorem fw_m : hasc (FW w x T pa be Z P C D R Lt V N A l d) (x + 139) 5 = true := by rw [FW_M]; exact cm
theorem fw_o : FW w x T pa be Z P C D R Lt V N A l d (x + 148) = some (.inl (2, 1, l)) := if_pos rfl
theorem fw_d : FW w x T pa be Z P C D R Lt V N A l d (x + 149) = some (.inl (3, 1, d)) := by
  unfold FW outW
  rw [if_neg (by omega), if_pos rfl]
theorem fw_go (h : l 0 = v) : ga (FW w x T pa be Z P C D R Lt V N A l d) (x + 148) 2 0 = some v := by
  unfold ga
  rw [fw_o, ← h]
  rfl
theorem fw_gd (h : d 0 = v) : ga (FW w x T pa be Z P C D R Lt V N A l d) (x + 149) 3 0 = some v := by
  unfold ga
  rw [fw_d, ← h]
  rfl
theorem updV_0 {f : Nat → Value} : updV f 0 v 0 = v := by
  unfold updV
  exact if_pos rfl
theorem fw_so : sa (FW w x T pa be Z P C D R Lt V N A l d) (x + 148) 2 0 v = some (FW w x T pa be Z P C D R Lt V N A (updV l 0 v) d) := by
  unfold sa
  rw [fw_o]
  dsimp only
  rw [if_pos ⟨rfl, rfl⟩]
  congr 1
  refine wset_same ?_ (fun b hb => ?_)
  · rw [fw_o]; rfl
  · unfold FW outW
    rw [if_neg hb, if_neg hb]
theorem fw_sd : sa (FW w x T pa be Z P C D R Lt V N A l d) (x + 149) 3 0 v = some (FW w x T pa be Z P C D R Lt V N A l (updV d 0 v)) := by
  unfold sa
  rw [fw_d]
  dsimp only
  rw [if_pos ⟨rfl, rfl⟩]
  congr 1
  refine wset_same ?_ (fun b hb => ?_)
  · rw [fw_d]; rfl
  · unfold FW outW
    by_cases c : b = x + 148
    · rw [if_pos c, if_pos c]
    · rw [if_neg c, if_neg hb, if_neg c, if_neg hb]
end FWS
