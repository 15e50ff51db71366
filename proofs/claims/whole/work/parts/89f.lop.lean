/-! ===== the law: its loop ===== -/
section LOOP
variable {X : Cxt} {w : Wld} {n : Option Nat} {Q : (Option Value ⊕ String) → Wld → Option Nat → Prop} {x c sl B : Nat} {T : Nat → Tb} {pa : Nat → Nat} {be : Nat} {Z P C D R Lt V N : Nat → Int32} {A : Nat → Nat → Int32} {l d : Nat → Value} {x5 : Int32} {l6 l7 l8 : Option Value}
theorem psl_tabOut {pc len : Nat} {ls : Lcs} {y : Int32} {r : Stk} {dflt lo hi : Int} {offs : Array Int} {t : Nat} (h : y.toInt < lo ∨ hi < y.toInt) (ht : tgt pc dflt = some t) : pst true (.tableswitch dflt lo hi offs) len pc ls (.int y :: r) = some (t, ls, r) := by
  show (qi (.int y :: r) fun x r => if x.toInt < lo ∨ hi < x.toInt then gt pc dflt (fun t => some (t, ls, r)) else _) = _
  show (if y.toInt < lo ∨ hi < y.toInt then gt pc dflt (fun t => some (t, ls, r)) else _) = _
  rw [if_pos h]
  unfold gt
  rw [ht]
theorem nI_int {j : Nat} (hj : j < 2 ^ 30) : (nI j).toInt = (j : Int) := by
  have h := sub_toInt (a := j) (b := 0) hj (by omega)
  rw [show nI 0 = 0 from rfl, Int32.sub_zero] at h
  rw [h]
  omega
theorem hnd_lo {B' : Nat} (K : HND X Q w x c sl B' x5) (h : B ≤ B') : HND X Q w x c sl B x5 := fun T pa be Z P C D R Lt V N A l d n c' sl' l6 l7 l8 hr h1 h2 => K T pa be Z P C D R Lt V N A l d n c' sl' l6 l7 l8 (hr.w h) h1 h2
/-- a turn, whatever it asks for -/
theorem law_case (hX : LitX X) (h : REL B T pa be Z P C R Lt V N A) (hB : B + 6200 ≤ 2 ^ 24) (h1 : c + 1 ≤ 603072) (h2 : sl + 6 ≤ 7219306) (i1 : inr_ (x5 + 1) X.2.2.2.2.2.1 = true) (i2 : inr_ (x5 + 2) X.2.2.2.2.2.1 = true) (i3 : inr_ (x5 + 3) X.2.2.2.2.2.1 = true) (K : HND X Q w x c sl (B + 6000) x5) {j : Nat} (hj : j < 64) : Ev X 223 44 [some (.ref X.2.2.2.2.1), some (.ref x), some (.ref (x + 139)), some (.ref (x + 148)), some (.ref (x + 149)), some (.int x5), l6, l7, l8] [.int (nI j)] (FW w x T pa be Z P C D R Lt V N A l d) n c sl Q := by
  by_cases c0 : 35 ≤ j
  · refine (L_p rfl (show decode (mB 223) 44 = .ok (.tableswitch 1809 0 34 #[156, 236, 280, 348, 428, 484, 540, 596, 652, 720, 804, 860, 916, 972, 985, 998, 1011, 1024, 1037, 1093, 1137, 1193, 1206, 1281, 1339, 1383, 1396, 1452, 1465, 1521, 1586, 1652, 1708, 1752, 1765], 156) by decide +kernel) rfl (psl_tabOut (Or.inr (by rw [nI_int (by omega)]; omega)) rfl)).mpr ?_
    exact K _ _ _ _ _ _ _ _ _ _ _ _ _ _ _ _ _ _ _ _ (h.w (by omega)) (by omega) (by omega)
  · have hj35 : j < 35 := by omega
    rcases (show j = 0 ∨ j = 1 ∨ j = 2 ∨ j = 3 ∨ j = 4 ∨ j = 5 ∨ j = 6 ∨ j = 7 ∨ j = 8 ∨ j = 9 ∨ j = 10 ∨ j = 11 ∨ j = 12 ∨ j = 13 ∨ j = 14 ∨ j = 15 ∨ j = 16 ∨ j = 17 ∨ j = 18 ∨ j = 19 ∨ j = 20 ∨ j = 21 ∨ j = 22 ∨ j = 23 ∨ j = 24 ∨ j = 25 ∨ j = 26 ∨ j = 27 ∨ j = 28 ∨ j = 29 ∨ j = 30 ∨ j = 31 ∨ j = 32 ∨ j = 33 ∨ j = 34 by omega) with rfl | rfl | rfl | rfl | rfl | rfl | rfl | rfl | rfl | rfl | rfl | rfl | rfl | rfl | rfl | rfl | rfl | rfl | rfl | rfl | rfl | rfl | rfl | rfl | rfl | rfl | rfl | rfl | rfl | rfl | rfl | rfl | rfl | rfl | rfl
    · exact L_law_44_0.mpr (cs_0 h (by omega) h1 h2 i1 i2 i3 (hnd_lo K (by omega)))
    · exact L_law_44_1.mpr (cs_1 h (by omega) h1 h2  (hnd_lo K (by omega)))
    · exact L_law_44_2.mpr (cs_2 h (by omega) h1 h2 i1 i2 (hnd_lo K (by omega)))
    · exact L_law_44_3.mpr (cs_3 h (by omega) h1 h2 i1 i2 i3 (hnd_lo K (by omega)))
    · exact L_law_44_4.mpr (cs_4 h (by omega) h1 h2 i1 (hnd_lo K (by omega)))
    · exact L_law_44_5.mpr (cs_5 h (by omega) h1 h2 i1 (hnd_lo K (by omega)))
    · exact L_law_44_6.mpr (cs_6 h (by omega) h1 h2 i1 (hnd_lo K (by omega)))
    · exact L_law_44_7.mpr (cs_7 h (by omega) h1 h2 i1 (hnd_lo K (by omega)))
    · exact L_law_44_8.mpr (cs_8 h (by omega) h1 h2 i1 i2 (hnd_lo K (by omega)))
    · exact L_law_44_9.mpr (cs_9 h (by omega) h1 h2 i1 i2 (hnd_lo K (by omega)))
    · exact L_law_44_10.mpr (cs_10 h (by omega) h1 h2 i1 (hnd_lo K (by omega)))
    · exact L_law_44_11.mpr (cs_11 h (by omega) h1 h2 i1 (hnd_lo K (by omega)))
    · exact L_law_44_12.mpr (cs_12 h (by omega) h1 h2 i1 (hnd_lo K (by omega)))
    · exact L_law_44_13.mpr (cs_13 h (by omega) h1 h2  (hnd_lo K (by omega)))
    · exact L_law_44_14.mpr (cs_14 h (by omega) h1 h2  (hnd_lo K (by omega)))
    · exact L_law_44_15.mpr (cs_15 h (by omega) h1 h2  (hnd_lo K (by omega)))
    · exact L_law_44_16.mpr (cs_16 h (by omega) h1 h2  (hnd_lo K (by omega)))
    · exact L_law_44_17.mpr (cs_17 h (by omega) h1 h2  (hnd_lo K (by omega)))
    · exact L_law_44_18.mpr (cs_18 h (by omega) h1 h2 i1 (hnd_lo K (by omega)))
    · exact L_law_44_19.mpr (cs_19 h (by omega) h1 h2  (hnd_lo K (by omega)))
    · exact L_law_44_20.mpr (cs_20 h (by omega) h1 h2 i1 (hnd_lo K (by omega)))
    · exact L_law_44_21.mpr (cs_21 h (by omega) h1 h2  (hnd_lo K (by omega)))
    · exact L_law_44_22.mpr (cs_22 h (by omega) h1 h2 i1 i2 (hnd_lo K (by omega)))
    · exact L_law_44_23.mpr (cs_23 h (by omega) h1 h2 i1 (hnd_lo K (by omega)))
    · exact L_law_44_24.mpr (cs_24 hX h (by omega) h1 h2  (hnd_lo K (by omega)))
    · exact L_law_44_25.mpr (cs_25 h (by omega) h1 h2  (hnd_lo K (by omega)))
    · exact L_law_44_26.mpr (cs_26 h (by omega) h1 h2 i1 (hnd_lo K (by omega)))
    · exact L_law_44_27.mpr (cs_27 hX h (by omega) h1 h2  (hnd_lo K (by omega)))
    · exact L_law_44_28.mpr (cs_28 h (by omega) h1 h2 i1 (hnd_lo K (by omega)))
    · exact L_law_44_29.mpr (cs_29 h (by omega) h1 h2  (hnd_lo K (by omega)))
    · exact L_law_44_30.mpr (cs_30 h (by omega) h1 h2  (hnd_lo K (by omega)))
    · exact L_law_44_31.mpr (cs_31 h (by omega) h1 h2 i1 (hnd_lo K (by omega)))
    · exact L_law_44_32.mpr (cs_32 h (by omega) h1 h2  (hnd_lo K (by omega)))
    · exact L_law_44_33.mpr (cs_33 h (by omega) h1 h2  (hnd_lo K (by omega)))
    · exact L_law_44_34.mpr (cs_34 h (by omega) h1 h2  (hnd_lo K (by omega)))
end LOOP
