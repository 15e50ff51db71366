/-! ===== reading methods of a table, in a SoupTable's world ===== -/
section LFT
variable {X : Cxt} {w : Wld} {n : Option Nat} {Q : (Option Value ⊕ String) → Wld → Option Nat → Prop} {x cnt : Nat} {T : Nat → Tb} {pa : Nat → Nat} {be : Nat} {Z P C D R Lt : Nat → Int32}
theorem SW_ib : blk (SW w x T pa be Z P C D R Lt) (x + 1) (T 0).1 (T 0).2.1 (T 0).2.2 = SW w x T pa be Z P C D R Lt := SW_id0
theorem SW_ib1 : blk (SW w x T pa be Z P C D R Lt) (x + 12) (T 1).1 (T 1).2.1 (T 1).2.2 = SW w x T pa be Z P C D R Lt := SW_id (i := 1) (by decide)
theorem sw_heldLadles (hc : (T 0).1 2 = nI cnt) (h8 : cnt ≤ 8) : Ev X 24 0 [some (.ref (x + 1)), none, none] [] (SW w x T pa be Z P C D R Lt) n 0 0 Q ↔ Q (.inl (some (.int (itr (heldF (T 0).2.1) cnt 0)))) (SW w x T pa be Z P C D R Lt) n := by
  have e := sp_heldLadles (X := X) (n := n) (Q := Q) (w := SW w x T pa be Z P C D R Lt) (t := (x + 1)) (F := (T 0).1) (G := (T 0).2.1) (S := (T 0).2.2)  hc h8
  rw [SW_ib] at e
  exact e
theorem sw_hasSeat {y1 : Int32} : Ev X 55 0 [some (.ref (x + 1)), some (.int y1)] [] (SW w x T pa be Z P C D R Lt) n 0 0 Q ↔ Q (.inl (some (.int (hasS ((T 0).1 2) y1)))) (SW w x T pa be Z P C D R Lt) n := by
  have e := sp_hasSeat (X := X) (n := n) (Q := Q) (w := SW w x T pa be Z P C D R Lt) (t := (x + 1)) (F := (T 0).1) (G := (T 0).2.1) (S := (T 0).2.2) (x := y1) 
  rw [SW_ib] at e
  exact e
theorem sw_canTick  : Ev X 61 0 [some (.ref (x + 1))] [] (SW w x T pa be Z P C D R Lt) n 0 0 Q ↔ Q (.inl (some (.int (if (T 0).1 2 < 2 then 0 else 1)))) (SW w x T pa be Z P C D R Lt) n := by
  have e := sp_canTick (X := X) (n := n) (Q := Q) (w := SW w x T pa be Z P C D R Lt) (t := (x + 1)) (F := (T 0).1) (G := (T 0).2.1) (S := (T 0).2.2)  
  rw [SW_ib] at e
  exact e
theorem sw_ladleOf (hc : (T 0).1 2 = nI cnt) (h8 : cnt ≤ 8) {k : Nat} (hk : k < cnt) {b : Int32} : Ev X 59 0 [some (.ref (x + 1)), some (.int (nI k)), some (.int b), none] [] (SW w x T pa be Z P C D R Lt) n 0 0 Q ↔ Q (.inl (some (.int (nI (ladN cnt (T 0).2.2 k b))))) (SW w x T pa be Z P C D R Lt) n := by
  have e := sp_ladleOf (X := X) (n := n) (Q := Q) (w := SW w x T pa be Z P C D R Lt) (t := (x + 1)) (F := (T 0).1) (G := (T 0).2.1) (S := (T 0).2.2) (k := k) (b := b) hc h8 hk
  rw [SW_ib] at e
  exact e
theorem sw_askers (hc : (T 0).1 2 = nI cnt) (h8 : cnt ≤ 8) : Ev X 27 0 [some (.ref (x + 1)), none, none] [] (SW w x T pa be Z P C D R Lt) n 0 0 Q ↔ Q (.inl (some (.int (itr (askersF (T 0).2.2) cnt 0)))) (SW w x T pa be Z P C D R Lt) n := by
  have e := sp_askers (X := X) (n := n) (Q := Q) (w := SW w x T pa be Z P C D R Lt) (t := (x + 1)) (F := (T 0).1) (G := (T 0).2.1) (S := (T 0).2.2)  hc h8
  rw [SW_ib] at e
  exact e
theorem sw_setWithLeave (hc : (T 0).1 2 = nI cnt) (h8 : cnt ≤ 8) : Ev X 25 0 [some (.ref (x + 1)), none, none] [] (SW w x T pa be Z P C D R Lt) n 0 0 Q ↔ Q (.inl (some (.int (itr (setWithLeaveF (T 0).2.2) cnt 0)))) (SW w x T pa be Z P C D R Lt) n := by
  have e := sp_setWithLeave (X := X) (n := n) (Q := Q) (w := SW w x T pa be Z P C D R Lt) (t := (x + 1)) (F := (T 0).1) (G := (T 0).2.1) (S := (T 0).2.2)  hc h8
  rw [SW_ib] at e
  exact e
theorem sw_mealsOfAll (hc : (T 0).1 2 = nI cnt) (h8 : cnt ≤ 8) : Ev X 23 0 [some (.ref (x + 1)), none, none] [] (SW w x T pa be Z P C D R Lt) n 0 0 Q ↔ Q (.inl (some (.int (itr (mealsOfAllF (T 0).2.2) cnt 0)))) (SW w x T pa be Z P C D R Lt) n := by
  have e := sp_mealsOfAll (X := X) (n := n) (Q := Q) (w := SW w x T pa be Z P C D R Lt) (t := (x + 1)) (F := (T 0).1) (G := (T 0).2.1) (S := (T 0).2.2)  hc h8
  rw [SW_ib] at e
  exact e
theorem sw_waitsOfAll (hc : (T 0).1 2 = nI cnt) (h8 : cnt ≤ 8) : Ev X 106 0 [some (.ref (x + 1)), none, none] [] (SW w x T pa be Z P C D R Lt) n 0 0 Q ↔ Q (.inl (some (.int (itr (waitsOfAllF (T 0).2.2) cnt 0)))) (SW w x T pa be Z P C D R Lt) n := by
  have e := sp_waitsOfAll (X := X) (n := n) (Q := Q) (w := SW w x T pa be Z P C D R Lt) (t := (x + 1)) (F := (T 0).1) (G := (T 0).2.1) (S := (T 0).2.2)  hc h8
  rw [SW_ib] at e
  exact e
theorem sw_mostMeals (hc : (T 0).1 2 = nI cnt) (h8 : cnt ≤ 8) : Ev X 109 0 [some (.ref (x + 1)), none, none] [] (SW w x T pa be Z P C D R Lt) n 0 0 Q ↔ Q (.inl (some (.int (itr (mostMealsF (T 0).2.2) cnt 0)))) (SW w x T pa be Z P C D R Lt) n := by
  have e := sp_mostMeals (X := X) (n := n) (Q := Q) (w := SW w x T pa be Z P C D R Lt) (t := (x + 1)) (F := (T 0).1) (G := (T 0).2.1) (S := (T 0).2.2)  hc h8
  rw [SW_ib] at e
  exact e
theorem sw_awaitedSeat (hc : (T 0).1 2 = nI cnt) (h8 : cnt ≤ 8) {k : Nat} (hk : k < cnt) : Ev X 86 0 [some (.ref (x + 1)), some (.int (nI k)), none] [] (SW w x T pa be Z P C D R Lt) n 0 0 Q ↔ Q (.inl (some (.int (awF cnt (T 0).2.1 (T 0).2.2 k)))) (SW w x T pa be Z P C D R Lt) n := by
  have e := sp_awaitedSeat (X := X) (n := n) (Q := Q) (w := SW w x T pa be Z P C D R Lt) (t := (x + 1)) (F := (T 0).1) (G := (T 0).2.1) (S := (T 0).2.2) (k := k) hc h8 hk
  rw [SW_ib] at e
  exact e
theorem sw_askerAt (hc : (T 0).1 2 = nI cnt) (h8 : cnt ≤ 8) {y1 : Int32} : Ev X 64 0 [some (.ref (x + 1)), some (.int y1), none] [] (SW w x T pa be Z P C D R Lt) n 0 0 Q ↔ Q (.inl (some (.int (oI (ff (askP cnt (T 0).2.2 y1) cnt 0))))) (SW w x T pa be Z P C D R Lt) n := by
  have e := sp_askerAt (X := X) (n := n) (Q := Q) (w := SW w x T pa be Z P C D R Lt) (t := (x + 1)) (F := (T 0).1) (G := (T 0).2.1) (S := (T 0).2.2) (x := y1) hc h8
  rw [SW_ib] at e
  exact e
theorem sw_hungriestAt (hc : (T 0).1 2 = nI cnt) (h8 : cnt ≤ 8) {y1 : Int32} : Ev X 124 0 [some (.ref (x + 1)), some (.int y1), none] [] (SW w x T pa be Z P C D R Lt) n 0 0 Q ↔ Q (.inl (some (.int (oI (ff (hunP cnt (T 0).2.2 y1) cnt 0))))) (SW w x T pa be Z P C D R Lt) n := by
  have e := sp_hungriestAt (X := X) (n := n) (Q := Q) (w := SW w x T pa be Z P C D R Lt) (t := (x + 1)) (F := (T 0).1) (G := (T 0).2.1) (S := (T 0).2.2) (x := y1) hc h8
  rw [SW_ib] at e
  exact e
theorem sw_hasBothManners (hc : (T 0).1 2 = nI cnt) (h8 : cnt ≤ 8) : Ev X 82 0 [some (.ref (x + 1)), none] [] (SW w x T pa be Z P C D R Lt) n 0 0 Q ↔ Q (.inl (some (.int (if (ff (bothP (T 0).2.2) (cnt - 1) 1).isSome then 1 else 0)))) (SW w x T pa be Z P C D R Lt) n := by
  have e := sp_hasBothManners (X := X) (n := n) (Q := Q) (w := SW w x T pa be Z P C D R Lt) (t := (x + 1)) (F := (T 0).1) (G := (T 0).2.1) (S := (T 0).2.2)  hc h8
  rw [SW_ib] at e
  exact e
theorem sw_isNext {y1 y2 : Int32} : Ev X 127 0 [some (.ref (x + 1)), some (.int y1), some (.int y2)] [] (SW w x T pa be Z P C D R Lt) n 0 0 Q ↔ Q (.inl (some (.int (if y2 = (if y1 = (T 0).1 2 - 1 then 0 else y1 + 1) then 1 else 0)))) (SW w x T pa be Z P C D R Lt) n := by
  have e := sp_isNext (X := X) (n := n) (Q := Q) (w := SW w x T pa be Z P C D R Lt) (t := (x + 1)) (F := (T 0).1) (G := (T 0).2.1) (S := (T 0).2.2) (x := y1) (y := y2) 
  rw [SW_ib] at e
  exact e
theorem sw_fewestMeals (hc : (T 0).1 2 = nI cnt) (h8 : cnt ≤ 8) : Ev X 110 0 [some (.ref (x + 1)), none, none] [] (SW w x T pa be Z P C D R Lt) n 0 0 Q ↔ Q (.inl (some (.int (fewF cnt (T 0).2.2)))) (SW w x T pa be Z P C D R Lt) n := by
  have e := sp_fewestMeals (X := X) (n := n) (Q := Q) (w := SW w x T pa be Z P C D R Lt) (t := (x + 1)) (F := (T 0).1) (G := (T 0).2.1) (S := (T 0).2.2)  hc h8
  rw [SW_ib] at e
  exact e
theorem sw_waiterLetsMore (hc : (T 0).1 2 = nI cnt) (h8 : cnt ≤ 8) : Ev X 65 0 [some (.ref (x + 1))] [] (SW w x T pa be Z P C D R Lt) n 0 0 Q ↔ Q (.inl (some (.int (moreF cnt (T 0).1 (T 0).2.2)))) (SW w x T pa be Z P C D R Lt) n := by
  have e := sp_waiterLetsMore (X := X) (n := n) (Q := Q) (w := SW w x T pa be Z P C D R Lt) (t := (x + 1)) (F := (T 0).1) (G := (T 0).2.1) (S := (T 0).2.2)  hc h8
  rw [SW_ib] at e
  exact e
theorem sw_number {k j : Nat} (hk : k < 8) (hj : j < 10) : Ev X 113 0 [some (.ref ((x + 1) + 3 + k)), some (.int (nI j))] [] (SW w x T pa be Z P C D R Lt) n 0 0 Q ↔ Q (.inl (some (.int (numF (T 0).2.2 k j)))) (SW w x T pa be Z P C D R Lt) n := by
  have e := sp_number (X := X) (n := n) (Q := Q) (w := SW w x T pa be Z P C D R Lt) (t := (x + 1)) (F := (T 0).1) (G := (T 0).2.1) (S := (T 0).2.2) (k := k) (j := j) hk hj
  rw [SW_ib] at e
  exact e
theorem sw_ringOf (hG : ∀ j, j < cnt → seatI cnt ((T 0).2.1 j)) (hc : (T 0).1 2 = nI cnt) (h8 : cnt ≤ 8) : Ev X 88 0 [some (.ref (x + 1)), none, none] [] (SW w x T pa be Z P C D R Lt) n 0 0 Q ↔ Q (.inl (some (.int (itr (ringF cnt (T 0).2.1 (T 0).2.2) cnt 0)))) (SW w x T pa be Z P C D R Lt) n := by
  have e := sp_ringOf (X := X) (n := n) (Q := Q) (w := SW w x T pa be Z P C D R Lt) (t := (x + 1)) (F := (T 0).1) (G := (T 0).2.1) (S := (T 0).2.2)  hG hc h8
  rw [SW_ib] at e
  exact e
theorem sw_stuckOf (hG : ∀ j, j < cnt → seatI cnt ((T 0).2.1 j)) (hc : (T 0).1 2 = nI cnt) (h8 : cnt ≤ 8) : Ev X 90 0 [some (.ref (x + 1)), none, none, none] [] (SW w x T pa be Z P C D R Lt) n 0 0 Q ↔ Q (.inl (some (.int (stuI cnt (T 0).1 (T 0).2.1 (T 0).2.2)))) (SW w x T pa be Z P C D R Lt) n := by
  have e := sp_stuckOf (X := X) (n := n) (Q := Q) (w := SW w x T pa be Z P C D R Lt) (t := (x + 1)) (F := (T 0).1) (G := (T 0).2.1) (S := (T 0).2.2)  hG hc h8
  rw [SW_ib] at e
  exact e
theorem sw_remainingOf (hc : (T 0).1 2 = nI cnt) (h8 : cnt ≤ 8) : Ev X 132 0 [some (.ref (x + 1)), none, none, none] [] (SW w x T pa be Z P C D R Lt) n 0 0 Q ↔ Q (.inl (some (.int (remI cnt (T 0).1 (T 0).2.1 (T 0).2.2)))) (SW w x T pa be Z P C D R Lt) n := by
  have e := sp_remainingOf (X := X) (n := n) (Q := Q) (w := SW w x T pa be Z P C D R Lt) (t := (x + 1)) (F := (T 0).1) (G := (T 0).2.1) (S := (T 0).2.2)  hc h8
  rw [SW_ib] at e
  exact e
theorem sw_canTick1  : Ev X 61 0 [some (.ref (x + 12))] [] (SW w x T pa be Z P C D R Lt) n 0 0 Q ↔ Q (.inl (some (.int (if (T 1).1 2 < 2 then 0 else 1)))) (SW w x T pa be Z P C D R Lt) n := by
  have e := sp_canTick (X := X) (n := n) (Q := Q) (w := SW w x T pa be Z P C D R Lt) (t := (x + 12)) (F := (T 1).1) (G := (T 1).2.1) (S := (T 1).2.2)  
  rw [SW_ib1] at e
  exact e
theorem sw_mealsOfAll1 (hc : (T 1).1 2 = nI cnt) (h8 : cnt ≤ 8) : Ev X 23 0 [some (.ref (x + 12)), none, none] [] (SW w x T pa be Z P C D R Lt) n 0 0 Q ↔ Q (.inl (some (.int (itr (mealsOfAllF (T 1).2.2) cnt 0)))) (SW w x T pa be Z P C D R Lt) n := by
  have e := sp_mealsOfAll (X := X) (n := n) (Q := Q) (w := SW w x T pa be Z P C D R Lt) (t := (x + 12)) (F := (T 1).1) (G := (T 1).2.1) (S := (T 1).2.2)  hc h8
  rw [SW_ib1] at e
  exact e
theorem sw_stuckOf1 (hG : ∀ j, j < cnt → seatI cnt ((T 1).2.1 j)) (hc : (T 1).1 2 = nI cnt) (h8 : cnt ≤ 8) : Ev X 90 0 [some (.ref (x + 12)), none, none, none] [] (SW w x T pa be Z P C D R Lt) n 0 0 Q ↔ Q (.inl (some (.int (stuI cnt (T 1).1 (T 1).2.1 (T 1).2.2)))) (SW w x T pa be Z P C D R Lt) n := by
  have e := sp_stuckOf (X := X) (n := n) (Q := Q) (w := SW w x T pa be Z P C D R Lt) (t := (x + 12)) (F := (T 1).1) (G := (T 1).2.1) (S := (T 1).2.2)  hG hc h8
  rw [SW_ib1] at e
  exact e
theorem SW_up1 {s : Tb} : bk (SW w x T pa be Z P C D R Lt) (x + 12) s = SW w x (updT T 1 s) pa be Z P C D R Lt := SW_up (i := 1) (by decide)
theorem sw_tick1 (hc : (T 1).1 2 = nI cnt) (h8 : cnt ≤ 8) : Ev X 72 0 [some (.ref (x + 12)), none] [] (SW w x T pa be Z P C D R Lt) n 0 0 Q ↔ Q (.inl none) (SW w x (updT T 1 (tickF cnt (T 1))) pa be Z P C D R Lt) n := by
  have e := sp_tick (X := X) (n := n) (Q := Q) (w := SW w x T pa be Z P C D R Lt) (t := x + 12) (s := T 1) hc h8
  rw [SW_up1, SW_up1, updT_id] at e
  exact e
end LFT
