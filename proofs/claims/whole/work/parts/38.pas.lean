/-! ===== ticks passed ===== -/
/-- a number that is a seat's, or is none -/
theorem hasS_ex {cnt : Nat} (h8 : cnt ≤ 8) {x : Int32} (h : ¬ hasS (nI cnt) x = 0) : ∃ k, k < cnt ∧ x = nI k := by
  unfold hasS at h
  by_cases h0 : x < 0
  · rw [if_pos h0] at h; exact absurd rfl h
  rw [if_neg h0] at h
  by_cases h1 : x < nI cnt
  · obtain ⟨j, hj, rfl⟩ := nI_of h0
    exact ⟨j, Nat.lt_of_not_le (fun q => nI_nlt q hj h1), rfl⟩
  · rw [if_neg h1] at h; exact absurd rfl h
section PAS
variable {X : Cxt} {w : Wld} {n : Option Nat} {Q : (Option Value ⊕ String) → Wld → Option Nat → Prop} {t cnt r : Nat} {F G R : Nat → Int32} {S : Nat → Nat → Int32}
def tksF (cnt m : Nat) (s : Tb) : Tb := itr (fun _ s => tickF cnt s) m s
theorem F2_tksF {m : Nat} {s : Tb} : (tksF cnt m s).1 2 = s.1 2 := itr_inv (p := fun (s : Tb) => s.1 2) (f := fun _ s => tickF cnt s) (fun _ _ => F2_tickF) m s
def pasF (cnt : Nat) (x : Int32) (s : Tb) : (Int32 × Int32) ⊕ (Int32 × Tb) :=
  if x < 1 then .inl (1, 0) else if 99 < x then .inl (1, 0) else if s.1 2 < 2 then .inl (5, s.1 2)
  else .inr (itr (mealsOfAllF (tksF cnt x.toNatClampNeg s).2.2) cnt 0 - itr (mealsOfAllF s.2.2) cnt 0, tksF cnt x.toNatClampNeg s)
theorem sp_passTicks (hr : r < t ∨ t + 11 ≤ r) (hc : F 2 = nI cnt) (h8 : cnt ≤ 8) {x : Int32} : Ev X 84 0 [some (.ref t), some (.int x), some (.ref r), none, none] [] (blk (rfc w r R) t F G S) n 0 0 Q ↔ ans Q w r t R (F, G, S) n (pasF cnt x (F, G, S)) := by
  have e1 : (1 : Int32) = 0 ↔ False := by decide
  unfold pasF
  dsimp only
  by_cases h1 : x < 1
  · rw [if_pos h1]
    simp only [X2_passTicks_0, X2_passTicks_1, X2_passTicks_2, X2_passTicks_5, X2_passTicks_6, X2_passTicks_8, X2_passTicks_11, X2_passTicks_12, X2_passTicks_13, X2_passTicks_14, X2_passTicks_17, X2_passTicks_18, X2_passTicks_19, X2_passTicks_22, X2_passTicks_25, X2_passTicks_26, X2_passTicks_27, X2_passTicks_28, X2_passTicks_31, X2_passTicks_34, X2_passTicks_35, X2_passTicks_36, X2_passTicks_39, X2_passTicks_40, X2_passTicks_41, X2_passTicks_43, X2_passTicks_45, X2_passTicks_46, X2_passTicks_49, X2_passTicks_50, X2_passTicks_53, X2_passTicks_56, X2_passTicks_59, X2_passTicks_60, X2_passTicks_63, X2_passTicks_64, X2_passTicks_65, Option.some.injEq, exists_eq_left', eq_self, okz0, okz1, ht, Kr_v, h1, if_true, hr_ hr, sp_refuse hr, ans, bk]
    done
  rw [if_neg h1]
  by_cases h2 : 99 < x
  · rw [if_pos h2]
    simp only [X2_passTicks_0, X2_passTicks_1, X2_passTicks_2, X2_passTicks_5, X2_passTicks_6, X2_passTicks_8, X2_passTicks_11, X2_passTicks_12, X2_passTicks_13, X2_passTicks_14, X2_passTicks_17, X2_passTicks_18, X2_passTicks_19, X2_passTicks_22, X2_passTicks_25, X2_passTicks_26, X2_passTicks_27, X2_passTicks_28, X2_passTicks_31, X2_passTicks_34, X2_passTicks_35, X2_passTicks_36, X2_passTicks_39, X2_passTicks_40, X2_passTicks_41, X2_passTicks_43, X2_passTicks_45, X2_passTicks_46, X2_passTicks_49, X2_passTicks_50, X2_passTicks_53, X2_passTicks_56, X2_passTicks_59, X2_passTicks_60, X2_passTicks_63, X2_passTicks_64, X2_passTicks_65, Option.some.injEq, exists_eq_left', eq_self, okz0, okz1, ht, Kr_v, h1, h2, if_true, if_false, hr_ hr, sp_refuse hr, ans, bk]
    done
  rw [if_neg h2]
  by_cases h3 : F 2 < 2
  · rw [if_pos h3]
    simp only [X2_passTicks_0, X2_passTicks_1, X2_passTicks_2, X2_passTicks_5, X2_passTicks_6, X2_passTicks_8, X2_passTicks_11, X2_passTicks_12, X2_passTicks_13, X2_passTicks_14, X2_passTicks_17, X2_passTicks_18, X2_passTicks_19, X2_passTicks_22, X2_passTicks_25, X2_passTicks_26, X2_passTicks_27, X2_passTicks_28, X2_passTicks_31, X2_passTicks_34, X2_passTicks_35, X2_passTicks_36, X2_passTicks_39, X2_passTicks_40, X2_passTicks_41, X2_passTicks_43, X2_passTicks_45, X2_passTicks_46, X2_passTicks_49, X2_passTicks_50, X2_passTicks_53, X2_passTicks_56, X2_passTicks_59, X2_passTicks_60, X2_passTicks_63, X2_passTicks_64, X2_passTicks_65, Option.some.injEq, exists_eq_left', eq_self, okz0, okz1, ht, Kr_v, h1, h2, sp_canTick, h3, gt2, if_true, if_false, hr_ hr, sp_refuse hr, ans, bk]
    done
  · rw [if_neg h3]
    have h0 : ¬ x < 0 := fun q => h1 (Int32.lt_trans q (by decide))
    obtain ⟨m, hm, rfl⟩ := nI_of h0
    rw [nI_clamp hm]
    have hL := loop_upI (I := fun _ (s : Tb) => s.1 2 = nI cnt) (P := fun k (s : Tb) => Ev X 84 43 [some (.ref t), some (.int (nI m)), some (.ref r), some (.int (itr (mealsOfAllF S) cnt 0)), some (.int (nI k))] [] (bk (rfc w r R) t s) n 0 0 Q) (f := fun _ s => tickF cnt s) (n := m) (a0 := (F, G, S)) hc (fun k s _ hs => by rw [F2_tickF]; exact hs) (fun k s hk hs => by
      have hlt : nI k < nI m := nI_lt hk hm
      rw [X2_passTicks_43]
      simp only [X2_passTicks_0, X2_passTicks_1, X2_passTicks_2, X2_passTicks_5, X2_passTicks_6, X2_passTicks_8, X2_passTicks_11, X2_passTicks_12, X2_passTicks_13, X2_passTicks_14, X2_passTicks_17, X2_passTicks_18, X2_passTicks_19, X2_passTicks_22, X2_passTicks_25, X2_passTicks_26, X2_passTicks_27, X2_passTicks_28, X2_passTicks_31, X2_passTicks_34, X2_passTicks_35, X2_passTicks_36, X2_passTicks_39, X2_passTicks_40, X2_passTicks_41, X2_passTicks_45, X2_passTicks_46, X2_passTicks_49, X2_passTicks_50, X2_passTicks_53, X2_passTicks_56, X2_passTicks_59, X2_passTicks_60, X2_passTicks_63, X2_passTicks_64, X2_passTicks_65, Option.some.injEq, exists_eq_left', eq_self, okz0, okz1, ht, hlt, if_true, sp_tick hs h8, Kr_n, nI_1]
      done)
    obtain ⟨hL, hI⟩ := hL
    simp only [X2_passTicks_0, X2_passTicks_1, X2_passTicks_2, X2_passTicks_5, X2_passTicks_6, X2_passTicks_8, X2_passTicks_11, X2_passTicks_12, X2_passTicks_13, X2_passTicks_14, X2_passTicks_17, X2_passTicks_18, X2_passTicks_19, X2_passTicks_22, X2_passTicks_25, X2_passTicks_26, X2_passTicks_27, X2_passTicks_28, X2_passTicks_31, X2_passTicks_34, X2_passTicks_35, X2_passTicks_36, X2_passTicks_39, X2_passTicks_40, X2_passTicks_41, X2_passTicks_45, X2_passTicks_46, X2_passTicks_49, X2_passTicks_50, X2_passTicks_53, X2_passTicks_56, X2_passTicks_59, X2_passTicks_60, X2_passTicks_63, X2_passTicks_64, X2_passTicks_65, Option.some.injEq, exists_eq_left', eq_self, okz0, okz1, ht, Kr_v, h1, h2, sp_canTick, h3, e1, sp_mealsOfAll hc h8, if_true, if_false]
    refine hL.trans ?_
    have hI' : (tksF cnt m (F, G, S)).1 2 = nI cnt := hI
    show Ev X 84 43 [some (.ref t), some (.int (nI m)), some (.ref r), some (.int (itr (mealsOfAllF S) cnt 0)), some (.int (nI m))] [] (bk (rfc w r R) t (tksF cnt m (F, G, S))) n 0 0 Q ↔ _
    simp only [X2_passTicks_0, X2_passTicks_1, X2_passTicks_2, X2_passTicks_5, X2_passTicks_6, X2_passTicks_8, X2_passTicks_11, X2_passTicks_12, X2_passTicks_13, X2_passTicks_14, X2_passTicks_17, X2_passTicks_18, X2_passTicks_19, X2_passTicks_22, X2_passTicks_25, X2_passTicks_26, X2_passTicks_27, X2_passTicks_28, X2_passTicks_31, X2_passTicks_34, X2_passTicks_35, X2_passTicks_36, X2_passTicks_39, X2_passTicks_40, X2_passTicks_41, X2_passTicks_43, X2_passTicks_45, X2_passTicks_46, X2_passTicks_49, X2_passTicks_50, X2_passTicks_53, X2_passTicks_56, X2_passTicks_59, X2_passTicks_60, X2_passTicks_63, X2_passTicks_64, X2_passTicks_65, Option.some.injEq, exists_eq_left', eq_self, okz0, okz1, ht, Int32.lt_irrefl, if_false, sp_mealsOfAll hI' h8, Kr_v, ans, bk]
    done
theorem sp_number {k : Nat} (hk : k < 8) {x : Int32} : Ev X 97 0 [some (.ref (t + 3 + k)), some (.int x)] [] (blk w t F G S) n 0 0 Q ↔ Q (.inl (some (.int (if ¬ x < 0 ∧ x < 9 then S k x.toNatClampNeg else if S k 3 < 2 then 0 else 1)))) (blk w t F G S) n := by
  by_cases h0 : x < 0
  · rw [if_neg (fun q => q.1 h0)]
    simp only [X1_number_0, X1_number_1_0, X1_number_1_1, X1_number_1_2, X1_number_1_3, X1_number_1_4, X1_number_1_5, X1_number_1_6, X1_number_1_7, X1_number_1_8, X1_number_52, X1_number_53, X1_number_56, X1_number_57, X1_number_58, X1_number_61, X1_number_62, X1_number_63, X1_number_66, X1_number_67, X1_number_68, X1_number_71, X1_number_72, X1_number_73, X1_number_76, X1_number_77, X1_number_78, X1_number_81, X1_number_82, X1_number_83, X1_number_86, X1_number_87, X1_number_88, X1_number_91, X1_number_92, X1_number_93, X1_number_96, X1_number_97, X1_number_98, X1_number_101, X1_number_102, X1_number_105, X1_number_106, X1_number_109, X1_number_110, Option.some.injEq, exists_eq_left', eq_self, okz0, okz1, ht, gq (show k < 8 by omega), gh (show k < 8 by omega), gs (show k < 8 by omega) (show 0 < 9 by decide), gs (show k < 8 by omega) (show 1 < 9 by decide), gs (show k < 8 by omega) (show 2 < 9 by decide), gs (show k < 8 by omega) (show 3 < 9 by decide), gs (show k < 8 by omega) (show 4 < 9 by decide), gs (show k < 8 by omega) (show 5 < 9 by decide), gs (show k < 8 by omega) (show 6 < 9 by decide), gs (show k < 8 by omega) (show 7 < 9 by decide), gs (show k < 8 by omega) (show 8 < 9 by decide)]
    sorry
  · sorry
end PAS
