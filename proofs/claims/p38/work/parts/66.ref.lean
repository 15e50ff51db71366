/-! ===== what is refused, and why; texts that are read to their end ===== -/
theorem ff_none_of {p : Nat → Bool} : ∀ {d k : Nat}, (∀ j, k ≤ j → j < k + d → p j = false) → ff p d k = none := by
  intro d
  induction d with
  | zero => intro k _; rfl
  | succ d ih =>
    intro k h
    unfold ff
    rw [h k (Nat.le_refl k) (by omega)]
    exact ih fun j h1 h2 => h j (by omega) (by omega)
/-- a count over the seats that leaves one out -/
theorem cnt_out {f : Nat → Int32 → Int32} {i cnt : Nat} (h : ∀ k a, f k a = a ∨ f k a = a + 1) (hi : ∀ a, f i a = a) (hc : i < cnt) : ∃ c : Nat, c < cnt ∧ itr f cnt 0 = nI c := by
  have g : ∀ m, ∃ c : Nat, (if i < m then c + 1 else c) ≤ m ∧ itr f m 0 = nI c := by
    intro m
    induction m with
    | zero => exact ⟨0, by rw [if_neg (Nat.not_lt_zero i)]; exact Nat.le_refl 0, rfl⟩
    | succ m ih =>
      obtain ⟨c, h1, h2⟩ := ih
      rw [itr_s, h2]
      by_cases e : i = m
      · rw [e] at h1 hi ⊢
        rw [if_neg (Nat.lt_irrefl m)] at h1
        exact ⟨c, by rw [if_pos (Nat.lt_succ_self m)]; omega, hi _⟩
      · by_cases c1 : i < m
        · rw [if_pos c1] at h1
          rcases h m (nI c) with q | q
          · exact ⟨c, by rw [if_pos (by omega)]; omega, q⟩
          · exact ⟨c + 1, by rw [if_pos (by omega)]; omega, by rw [q, nI_1]⟩
        · rw [if_neg c1] at h1
          rcases h m (nI c) with q | q
          · exact ⟨c, by rw [if_neg (by omega)]; omega, q⟩
          · exact ⟨c + 1, by rw [if_neg (by omega)]; omega, by rw [q, nI_1]⟩
  obtain ⟨c, h1, h2⟩ := g cnt
  rw [if_pos hc] at h1
  exact ⟨c, h1, h2⟩
theorem bef_out {S : Nat → Nat → Int32} {i cnt : Nat} (hc : i < cnt) : ∃ c : Nat, c < cnt ∧ itr (befF S i) cnt 0 = nI c := by
  refine cnt_out (fun k a => ?_) (fun a => ?_) hc
  · unfold befF
    (repeat' split) <;> first | exact Or.inl rfl | exact Or.inr rfl
  · unfold befF
    have e1 : ¬ (0 : Int32) < S i 7 - S i 7 := by rw [Int32.sub_self]; decide
    have e2 : ¬ nI i < nI i := iirr
    simp only [e1, e2, if_false, ite_self]
theorem hgr_irr {S : Nat → Nat → Int32} {i : Nat} : hgr S i i = false := by
  unfold hgr
  rw [if_neg iirr, if_pos rfl]
  exact decide_eq_false iirr
theorem hun_out {S : Nat → Nat → Int32} {i cnt : Nat} (hc : i < cnt) : ∃ c : Nat, c < cnt ∧ itr (hunF S i) cnt 0 = nI c := by
  refine cnt_out (fun k a => ?_) (fun a => ?_) hc
  · unfold hunF
    (repeat' split) <;> first | exact Or.inl rfl | exact Or.inr rfl
  · unfold hunF
    rw [hgr_irr, if_neg iirr]
    rfl
theorem asV_no {s : Tb} {B : Nat} (hg : Iv B s) {y : Int32} (hy : ∀ c : Nat, c < cntOf s → nI c ≠ y) : asV s y = -1001 := by
  unfold asV
  rw [ff_none_of (fun j _ h2 => ?_)]
  · rfl
  · obtain ⟨c, c1, c2⟩ := bef_out (S := s.2.2) (i := j) (cnt := cntOf s) (by omega)
    exact decide_eq_false (fun z => hy c c1 (by rw [← c2]; exact z.2))
theorem huV_no {s : Tb} {B : Nat} (hg : Iv B s) {y : Int32} (hy : ∀ c : Nat, c < cntOf s → nI c ≠ y) : huV s y = -1001 := by
  unfold huV
  rw [ff_none_of (fun j _ h2 => ?_)]
  · rfl
  · obtain ⟨c, c1, c2⟩ := hun_out (S := s.2.2) (i := j) (cnt := cntOf s) (by omega)
    exact decide_eq_false (fun z => hy c c1 (by rw [← c2]; exact z))
section RFS
variable {t : Tb} {B : Nat} {C D : Nat → Int32}
theorem has_self {c : Int32} : hasS c c = 0 := by
  unfold hasS
  split
  · rfl
  · rw [if_neg iirr]
theorem has_neg {c y : Int32} (h : y < 0) : hasS c y = 0 := if_pos h
theorem has_0 (hg : Iv B t) (h2 : 2 ≤ cntOf t) : ¬ hasS (t.1 2) 0 = 0 := has_in (k := 0) hg (by omega)
theorem r_add1 {m a b : Int32} (h : mnF m = 0) : addF (cntOf t) m a b t = .inl (1, 0) := if_pos h
theorem r_add2 {m a b : Int32} (h0 : ¬ mnF m = 0) (h : ckF a = 0) : addF (cntOf t) m a b t = .inl (1, 0) := (if_neg h0).trans (if_pos h)
theorem r_add3 {m a b : Int32} (h0 : ¬ mnF m = 0) (h1 : ¬ ckF a = 0) (h : ckF b = 0) : addF (cntOf t) m a b t = .inl (1, 0) := (if_neg h0).trans ((if_neg h1).trans (if_pos h))
theorem r_man1 (hg : Iv B t) (h2 : 2 ≤ cntOf t) {m : Int32} (h : mnF m = 0) : manX (cntOf t) 0 m t = .inl (1, 0) := (if_neg (has_0 hg h2)).trans (if_pos h)
theorem r_man3 {y m : Int32} (h : hasS (t.1 2) y = 0) : manX (cntOf t) y m t = .inl (3, y) := if_pos h
theorem r_man7 (hg : Iv B t) (h2 : 2 ≤ cntOf t) : manX (cntOf t) 0 (numF t.2.2 0 0) t = .inl (7, 0) := by
  obtain ⟨q, q1, q2⟩ := hg.man 0 (by omega)
  have e : numF t.2.2 0 0 = t.2.2 0 0 := rfl
  have n0 : ¬ mnF (t.2.2 0 0) = 0 := by rw [q2]; exact mnF_ok q1
  rw [e]
  exact (if_neg (has_0 hg h2)).trans ((if_neg n0).trans (if_pos rfl))
theorem r_clo1 (hg : Iv B t) (h2 : 2 ≤ cntOf t) {a b : Int32} (h : ckF a = 0) : cloX (cntOf t) 0 a b t = .inl (1, 0) := (if_neg (has_0 hg h2)).trans (if_pos h)
theorem r_clo2 (hg : Iv B t) (h2 : 2 ≤ cntOf t) {a b : Int32} (h0 : ¬ ckF a = 0) (h : ckF b = 0) : cloX (cntOf t) 0 a b t = .inl (1, 0) := (if_neg (has_0 hg h2)).trans ((if_neg h0).trans (if_pos h))
theorem r_clo3 {y a b : Int32} (h : hasS (t.1 2) y = 0) : cloX (cntOf t) y a b t = .inl (3, y) := if_pos h
theorem r_wai1 {y : Int32} (h : y < 0) : waiF y t = .inl (1, 0) := if_pos h
theorem r_wai2 {y : Int32} (h0 : ¬ y < 0) (h : 8 < y) : waiF y t = .inl (1, 0) := (if_neg h0).trans (if_pos h)
theorem r_wai7 (hg : Iv B t) : waiF (t.1 3) t = .inl (7, 0) := by
  obtain ⟨q, q1, q2⟩ := hg.wai
  have n1 : ¬ t.1 3 < 0 := by rw [q2]; exact nI_pos (by omega)
  have n2 : ¬ 8 < t.1 3 := by rw [q2]; exact fun z => nI_nlt (show q ≤ 8 by omega) (by decide) (show nI 8 < nI q from z)
  exact (if_neg n1).trans ((if_neg n2).trans (if_pos rfl))
theorem r_bri1 {y : Int32} (h : y < 1) : briF y t = .inl (1, 0) := if_pos h
theorem r_bri2 {y : Int32} (h0 : ¬ y < 1) (h : 99 < y) : briF y t = .inl (1, 0) := (if_neg h0).trans (if_pos h)
theorem r_pas1 {y : Int32} (h : y < 1) : pasF (cntOf t) y t = .inl (1, 0) := if_pos h
theorem r_pas2 {y : Int32} (h0 : ¬ y < 1) (h : 99 < y) : pasF (cntOf t) y t = .inl (1, 0) := (if_neg h0).trans (if_pos h)
theorem r_pas_ok (hc : ¬ t.1 2 < 2) {k : Nat} (h1 : 1 ≤ k) (h2 : k ≤ 99) : ∃ v, pasF (cntOf t) (nI k) t = .inr (v, tksF (cntOf t) k t) := by
  have n1 : ¬ nI k < 1 := fun z => nI_nlt h1 (by omega) (show nI k < nI 1 from z)
  have n2 : ¬ 99 < nI k := fun z => nI_nlt h2 (by decide) (show nI 99 < nI k from z)
  refine ⟨itr (mealsOfAllF (tksF (cntOf t) k t).2.2) (cntOf t) 0 - itr (mealsOfAllF t.2.2) (cntOf t) 0, ?_⟩
  unfold pasF
  rw [if_neg n1, if_neg n2, if_neg hc, nI_clamp (by omega)]
theorem r_tak3 {y : Int32} (h : hasS (t.1 2) y = 0) : takX (cntOf t) y t = .inl (3, y) := if_pos h
theorem r_tak6 (hg : Iv B t) (h2 : 2 ≤ cntOf t) (h : ¬ t.2.2 0 3 = 3) : takX (cntOf t) 0 t = .inl (6, t.2.2 0 3) := (if_neg (has_0 hg h2)).trans (if_neg h)
theorem cnt_tks {k : Nat} : cntOf (tksF (cntOf t) k t) = cntOf t := by unfold cntOf; rw [F2_tksF]
theorem two_ok (hg : Iv B t) (h2 : 2 ≤ cntOf t) : ¬ t.1 2 < 2 := fun z => nI_nlt h2 (by have := hg.c8; omega) (show nI (cntOf t) < nI 2 by rw [← hg.c2]; exact z)
/-! the texts -/
theorem cC {L : List Int32} {k : Nat} {c : Int32} (h : ∀ k, k < L.length → L[k]? = some (C k)) (hk : k < L.length) (e : L[k]? = some c) : C k = c := by
  have := h k hk
  rw [e] at this
  exact (Option.some.inj this).symm
theorem tx_q (h : ∀ k, k < (LBY.getD 8 []).length → (LBY.getD 8 [])[k]? = some (C k)) : fltN (LBY.getD 8 []).length C 60 0 D = some 0 := by
  have c0 : C 0 = 113 := cC h (by decide) (by decide)
  show fltN 1 C 60 0 D = some 0
  unfold fltN cmdN
  rw [if_pos (by decide), c0]
  rfl
/-- a command of one number -/
theorem cmd_1 {L p k v q : Nat} {f : Int32} (hp : p < L) (hk : kndF (C p) = some k) (hs : LBY.getD (shN k) [] = [f]) (hn : numN L C f (p + 1) = some (nI v, q)) : cmdN L C p D = some (k, true, q, upd D 0 (nI v)) := by
  unfold cmdN
  rw [if_pos hp, hk]
  show some (k, numsN L C (LBY.getD (shN k) []) 0 (p + 1) D) = _
  rw [hs]
  unfold numsN
  rw [hn]
  rfl
theorem flt_1 {L d p k q : Nat} {D2 : Nat → Int32} (hc : cmdN L C p D = some (k, true, q, D2)) (h1 : q < L) (h2 : C q = 59) : fltN L C (d + 1) p D = fltN L C d (q + 1) D2 := by
  rw [fltN, hc]
  dsimp only
  rw [if_pos rfl, if_pos h1, if_pos h2]
theorem flt_e {L d p k q : Nat} {D2 : Nat → Int32} (hc : cmdN L C p D = some (k, true, q, D2)) (h1 : ¬ q < L) : fltN L C (d + 1) p D = none := by
  rw [fltN, hc]
  dsimp only
  rw [if_pos rfl, if_neg h1]
theorem cr_1 {L d i p k q : Nat} {D2 : Nat → Int32} {v : Int32} {t2 : Tb} (hc : cmdN L C p D = some (k, true, q, D2)) (ho : obF (cntOf t) k D2 t = .inr (v, t2)) (h : q < L ∧ C q = 59) : cmdR L C (d + 1) i p D t = cmdR L C d (i + 1) (q + 1) D2 t2 := by
  rw [cmdR, hc]
  dsimp only
  rw [if_pos rfl, ho]
  dsimp only
  rw [if_pos h]
theorem cr_e {L d i p k q : Nat} {D2 : Nat → Int32} {u v : Int32} (hc : cmdN L C p D = some (k, true, q, D2)) (ho : obF (cntOf t) k D2 t = .inl (u, v)) : cmdR L C (d + 1) i p D t = .inl (i, u, v) := by
  rw [cmdR, hc]
  dsimp only
  rw [if_pos rfl, ho]
theorem num_d {L p : Nat} {c : Int32} (hp : p < L) (hc : C p = c) (hd : isDg c = true) : numN L C 100 p = some (c - 48, p + 1) := by
  unfold numN
  rw [if_neg (by decide), if_pos hp, hc, if_pos hd, if_neg (by decide)]
theorem num_n {L p : Nat} {c : Int32} (hp : p < L) (hc : C p = c) (hd : isDg c = true) (h2 : p + 1 < L → isDg (C (p + 1)) = false) : numN L C 110 p = some (c - 48, p + 1) := by
  unfold numN
  rw [if_neg (by decide), if_pos hp, hc, if_pos hd, if_pos rfl]
  split
  · rename_i h
    rw [h2 h]
    rfl
  · rfl
theorem tx_9 (h : ∀ k, k < (LBY.getD 9 []).length → (LBY.getD 9 [])[k]? = some (C k)) : (∀ D, cmdN 8 C 0 D = some (7, true, 2, upd D 0 1)) ∧ (∀ D, cmdN 8 C 3 D = some (7, true, 5, upd D 0 2)) ∧ (∀ D, cmdN 8 C 6 D = some (7, true, 8, upd D 0 0)) ∧ C 2 = 59 ∧ C 5 = 59 := by
  have c0 : C 0 = 116 := cC h (by decide) (by decide)
  have c1 : C 1 = 49 := cC h (by decide) (by decide)
  have c2 : C 2 = 59 := cC h (by decide) (by decide)
  have c3 : C 3 = 116 := cC h (by decide) (by decide)
  have c4 : C 4 = 50 := cC h (by decide) (by decide)
  have c5 : C 5 = 59 := cC h (by decide) (by decide)
  have c6 : C 6 = 116 := cC h (by decide) (by decide)
  have c7 : C 7 = 48 := cC h (by decide) (by decide)
  refine ⟨fun D => ?_, fun D => ?_, fun D => ?_, c2, c5⟩
  · exact cmd_1 (v := 1) (f := 110) (by decide) (by rw [c0]; rfl) rfl (num_n (c := 49) (by decide) c1 (by decide) (fun _ => by rw [c2]; rfl))
  · exact cmd_1 (v := 2) (f := 110) (by decide) (by rw [c3]; rfl) rfl (num_n (c := 50) (by decide) c4 (by decide) (fun _ => by rw [c5]; rfl))
  · exact cmd_1 (v := 0) (f := 110) (by decide) (by rw [c6]; rfl) rfl (num_n (c := 48) (by decide) c7 (by decide) (fun z => absurd z (by decide)))
theorem tx_9f (h : ∀ k, k < (LBY.getD 9 []).length → (LBY.getD 9 [])[k]? = some (C k)) : fltN (LBY.getD 9 []).length C 60 0 D = none := by
  obtain ⟨a1, a2, a3, a4, a5⟩ := tx_9 h
  show fltN 8 C (59 + 1) 0 D = none
  rw [flt_1 (a1 D) (by decide) a4, show fltN 8 C 59 (2 + 1) (upd D 0 1) = fltN 8 C (58 + 1) 3 (upd D 0 1) from rfl, flt_1 (a2 _) (by decide) a5]
  exact flt_e (d := 57) (a3 _) (by decide)
theorem tx_9c (h : ∀ k, k < (LBY.getD 9 []).length → (LBY.getD 9 [])[k]? = some (C k)) (hg : Iv B t) (h2 : 2 ≤ cntOf t) : cmdR (LBY.getD 9 []).length C 60 0 0 D t = .inl (2, 1, 0) := by
  obtain ⟨a1, a2, a3, a4, a5⟩ := tx_9 h
  have n2 := two_ok hg h2
  obtain ⟨v1, e1⟩ := r_pas_ok (t := t) n2 (k := 1) (by decide) (by decide)
  obtain ⟨v2, e2⟩ := r_pas_ok (t := tksF (cntOf t) 1 t) (by rw [F2_tksF]; exact n2) (k := 2) (by decide) (by decide)
  have o1 : ∀ D, obF (cntOf t) 7 (upd D 0 1) t = .inr (v1, tksF (cntOf t) 1 t) := fun D => e1
  rw [cnt_tks] at e2
  have o2 : ∀ D, obF (cntOf t) 7 (upd D 0 2) (tksF (cntOf t) 1 t) = .inr (v2, tksF (cntOf t) 2 (tksF (cntOf t) 1 t)) := fun D => e2
  have o3 : ∀ D, obF (cntOf t) 7 (upd D 0 0) (tksF (cntOf t) 2 (tksF (cntOf t) 1 t)) = .inl (1, 0) := fun D => by
    show pasF (cntOf t) 0 _ = _
    exact if_pos (by decide)
  have k1 : cntOf (tksF (cntOf t) 1 t) = cntOf t := cnt_tks
  have k2 : cntOf (tksF (cntOf t) 2 (tksF (cntOf t) 1 t)) = cntOf t := by unfold cntOf; rw [F2_tksF, F2_tksF]
  show cmdR 8 C (59 + 1) 0 0 D t = _
  rw [cr_1 (a1 D) (o1 D) ⟨by decide, a4⟩, show cmdR 8 C 59 (0 + 1) (2 + 1) (upd D 0 1) (tksF (cntOf t) 1 t) = cmdR 8 C (58 + 1) 1 3 (upd D 0 1) (tksF (cntOf t) 1 t) from rfl, cr_1 (a2 _) (by rw [k1]; exact o2 _) ⟨by decide, a5⟩]
  exact cr_e (d := 57) (a3 _) (by rw [k2]; exact o3 _)
theorem tx_10 (h : ∀ k, k < (LBY.getD 10 []).length → (LBY.getD 10 [])[k]? = some (C k)) : (∀ D, cmdN 5 C 0 D = some (7, true, 2, upd D 0 3)) ∧ (∀ D, cmdN 5 C 3 D = some (6, true, 5, upd D 0 9)) ∧ C 2 = 59 := by
  have c0 : C 0 = 116 := cC h (by decide) (by decide)
  have c1 : C 1 = 51 := cC h (by decide) (by decide)
  have c2 : C 2 = 59 := cC h (by decide) (by decide)
  have c3 : C 3 = 100 := cC h (by decide) (by decide)
  have c4 : C 4 = 57 := cC h (by decide) (by decide)
  refine ⟨fun D => ?_, fun D => ?_, c2⟩
  · exact cmd_1 (v := 3) (f := 110) (by decide) (by rw [c0]; rfl) rfl (num_n (c := 51) (by decide) c1 (by decide) (fun _ => by rw [c2]; rfl))
  · exact cmd_1 (v := 9) (f := 100) (by decide) (by rw [c3]; rfl) rfl (num_d (c := 57) (by decide) c4 (by decide))
theorem tx_10f (h : ∀ k, k < (LBY.getD 10 []).length → (LBY.getD 10 [])[k]? = some (C k)) : fltN (LBY.getD 10 []).length C 60 0 D = none := by
  obtain ⟨a1, a2, a4⟩ := tx_10 h
  show fltN 5 C (59 + 1) 0 D = none
  rw [flt_1 (a1 D) (by decide) a4]
  exact flt_e (d := 58) (a2 _) (by decide)
theorem tx_10c (h : ∀ k, k < (LBY.getD 10 []).length → (LBY.getD 10 [])[k]? = some (C k)) (hg : Iv B t) (h2 : 2 ≤ cntOf t) : cmdR (LBY.getD 10 []).length C 60 0 0 D t = .inl (1, 3, 9) := by
  obtain ⟨a1, a2, a4⟩ := tx_10 h
  have n2 := two_ok hg h2
  have c8 := hg.c8
  obtain ⟨v1, e1⟩ := r_pas_ok (t := t) n2 (k := 3) (by decide) (by decide)
  have o1 : ∀ D, obF (cntOf t) 7 (upd D 0 3) t = .inr (v1, tksF (cntOf t) 3 t) := fun D => e1
  have k1 : cntOf (tksF (cntOf t) 3 t) = cntOf t := cnt_tks
  have o2 : ∀ D, obF (cntOf t) 6 (upd D 0 9) (tksF (cntOf t) 3 t) = .inl (3, 9) := fun D => by
    refine if_pos ?_
    show hasS ((tksF (cntOf t) 3 t).1 2) 9 = 0
    rw [F2_tksF, hg.c2]
    unfold hasS
    have n9 : ¬ (9 : Int32) < nI (cntOf t) := fun z => nI_nlt (show cntOf t ≤ 9 by omega) (by decide) (show nI 9 < nI (cntOf t) from z)
    rw [if_neg (by decide), if_neg n9]
  show cmdR 5 C (59 + 1) 0 0 D t = _
  rw [cr_1 (a1 D) (o1 D) ⟨by decide, a4⟩]
  exact cr_e (d := 58) (a2 _) (by rw [k1]; exact o2 _)
end RFS
