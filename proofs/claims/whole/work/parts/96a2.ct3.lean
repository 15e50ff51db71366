/-! ===== constructors: a SoupTable; the law's beginning ===== -/
section CTR3
variable {X : Cxt} {w : Wld} {Q : (Option Value ⊕ String) → Wld → Option Nat → Prop} {x m k i : Nat} {fs : List Value} {h : Nat → Value} {v : Value} {e : Cel}
/-- a SoupTable half made: m of its cells and itself; the array of past holds h -/
def sx (w : Wld) (x m : Nat) (fs : List Value) (h : Nat → Value) : Wld := fun a => if a = x then some (.inr (4, fs)) else if x < a ∧ a < x + m then (if a = x + 34 then some (.inl (5, 8, h)) else SW w x (fun _ => s00) (fun k => k + 4) 3 Z00 (fun _ => 0) (fun _ => 0) (fun _ => 0) (fun _ => 0) (fun _ => 0) a) else w a
theorem sx_x : sx w x m fs h x = some (.inr (4, fs)) := if_pos rfl
theorem sx_o {a : Nat} (h1 : a < x ∨ x + m ≤ a) (h2 : a ≠ x) : sx w x m fs h a = w a := by
  unfold sx
  rw [if_neg h2, if_neg (by omega)]
theorem sx_34 (h1 : 34 < m) : sx w x m fs h (x + 34) = some (.inl (5, 8, h)) := by
  unfold sx
  rw [if_neg (by omega), if_pos (by omega), if_pos rfl]
theorem sx_pf {j : Nat} (hk : j < fs.length) (hv : okv (fty 4 j) v = true) : pf (sx w x m fs h) x 4 j v = some (sx w x m (fs.set j v) h) := by
  rw [pf_ok sx_x hk hv]
  congr 1
  refine wset_same sx_x (fun b hb => ?_)
  unfold sx
  rw [if_neg hb, if_neg hb]
/-- one more cell -/
theorem sx_1 (hm : 1 ≤ m) (h34 : m ≠ 34) (he : SW w x (fun _ => s00) (fun k => k + 4) 3 Z00 (fun _ => 0) (fun _ => 0) (fun _ => 0) (fun _ => 0) (fun _ => 0) (x + m) = some e) : wset (sx w x m fs h) (x + m) e = sx w x (m + 1) fs h := by
  refine wset_same ?_ (fun b hb => ?_)
  · unfold sx
    rw [if_neg (by omega), if_pos (by omega), if_neg (by omega), he]
  · unfold sx
    by_cases c : b = x
    · rw [if_pos c, if_pos c]
    rw [if_neg c, if_neg c]
    by_cases d : x < b ∧ b < x + m
    · rw [if_pos (by omega), if_pos d]
    · rw [if_neg (by omega), if_neg d]
theorem sx_a : wset (sx w x 34 fs h) (x + 34) (.inl (5, 8, anw 2 (x + 34) 8)) = sx w x 35 fs (anw 2 (x + 34) 8) := by
  refine wset_same ?_ (fun b hb => ?_)
  · unfold sx
    rw [if_neg (by omega), if_pos (by omega), if_pos rfl]
  · unfold sx
    by_cases c : b = x
    · rw [if_pos c, if_pos c]
    rw [if_neg c, if_neg c]
    by_cases d : x < b ∧ b < x + 34
    · rw [if_pos (by omega), if_pos d, if_neg hb, if_neg hb]
    · rw [if_neg (by omega), if_neg d]
/-- one more table -/
theorem sx_t {u : Wld} (hi : i < 12) (hm : tof i = m) (hu : ∀ a, a < x + m ∨ x + m + 11 ≤ a → u a = sx w x m fs h a) : bk u (x + m) s00 = sx w x (m + 11) fs h := by
  subst hm
  funext a
  by_cases c : x + tof i ≤ a ∧ a < x + tof i + 11
  · obtain ⟨e1, e2, e3, e4, e5, e6, e7, e8⟩ := tno_of (i := i) (d := a - x) hi (by omega) (by omega)
    unfold sx
    rw [if_neg (by omega), if_pos (by omega), if_neg (by omega), SW_tab hi c.1 c.2]
    exact bk_in c.1 c.2
  · have e0 : 1 ≤ tof i := by
      unfold tof
      split
      · omega
      · split <;> omega
    have e1 : bk u (x + tof i) s00 a = u a := blk_out (by omega)
    rw [e1, hu a (by omega)]
    unfold sx
    by_cases c0 : a = x
    · rw [if_pos c0, if_pos c0]
    rw [if_neg c0, if_neg c0]
    by_cases d : x < a ∧ a < x + tof i
    · rw [if_pos d, if_pos (show x < a ∧ a < x + (tof i + 11) by omega)]
    · rw [if_neg d, if_neg (show ¬ (x < a ∧ a < x + (tof i + 11)) by omega)]
/-- the text -/
theorem sx_x46 {u : Wld} (hu : ∀ a, a < x + 46 ∨ x + 49 ≤ a → u a = sx w x 46 fs h a) : txt u (x + 46) (fun _ => 0) (fun _ => 0) (fun _ => 0) = sx w x 49 fs h := by
  funext a
  by_cases c : x + 46 ≤ a ∧ a < x + 49
  · unfold sx
    rw [if_neg (by omega), if_pos (by omega), if_neg (by omega), SW_46 c]
    exact txt_in c.1 c.2
  · rw [txt_out (by omega), hu a (by omega)]
    unfold sx
    by_cases c0 : a = x
    · rw [if_pos c0, if_pos c0]
    rw [if_neg c0, if_neg c0]
    by_cases d : x < a ∧ a < x + 46
    · rw [if_pos d, if_pos (show x < a ∧ a < x + 49 by omega)]
    · rw [if_neg d, if_neg (show ¬ (x < a ∧ a < x + 49) by omega)]
/-- the array of past written -/
theorem sx_s {b : Nat} (h1 : 34 < m) (hk : k < 8) (hb : sx w x m fs h b = some (.inr (2, tfs b s00.1))) : saq (sx w x m fs h) (x + 34) (nI k) b = some (sx w x m fs (updV h k (.ref b))) := by
  have e1 : hasc (sx w x m fs h) b 1 = false := by
    unfold hasc
    rw [hb]
    rfl
  unfold saq
  rw [e1, hasc_ok hb, sa_ok (sx_34 h1) hk (by decide)]
  dsimp only
  congr 1
  refine wset_same (sx_34 h1) (fun b hb => ?_)
  unfold sx
  by_cases c : b = x
  · rw [if_pos c, if_pos c]
  rw [if_neg c, if_neg c, if_neg hb, if_neg hb]
theorem sx_end : sx w x 139 (sob x 3 Z00) (fun k => .ref (x + tof (k + 4))) = SW w x (fun _ => s00) (fun k => k + 4) 3 Z00 (fun _ => 0) (fun _ => 0) (fun _ => 0) (fun _ => 0) (fun _ => 0) := by
  funext a
  unfold sx
  by_cases c : a = x
  · rw [if_pos c, c, SW_x]
  rw [if_neg c]
  by_cases d : x < a ∧ a < x + 139
  · rw [if_pos d]
    by_cases f : a = x + 34
    · rw [if_pos f, f, SW_34]
    · rw [if_neg f]
  · rw [if_neg d, SW_out (by omega)]
def phk (x k : Nat) : Nat → Value := fun j => if j < k then .ref (x + (51 + 11 * j)) else anw 2 (x + 34) 8 j
theorem tof_4 {k : Nat} : tof (k + 4) = 51 + 11 * k := by
  unfold tof
  rw [if_neg (by omega), if_neg (by omega)]
  omega
theorem phk_s (hk : k < 8) : updV (phk x k) k (.ref (x + (51 + 11 * k))) = phk x (k + 1) := by
  funext j
  unfold updV phk
  by_cases c : j = k
  · rw [if_pos c, if_pos (by omega), c]
  · rw [if_neg c]
    by_cases d : j < k
    · rw [if_pos d, if_pos (by omega)]
    · rw [if_neg d, if_neg (by omega)]
theorem phk_8 : phk x 8 = fun k => .ref (x + tof (k + 4)) := by
  funext j
  rw [tof_4]
  unfold phk anw
  by_cases c : j < 8
  · rw [if_pos c]
  · rw [if_neg c, if_neg c]
    show Value.ref (x + 34 + 17 + 11 * j) = Value.ref (x + (51 + 11 * j))
    rw [show x + 34 + 17 + 11 * j = x + (51 + 11 * j) by omega]
theorem sx_tab (hi : i < 12) (hm : tof i + 11 = m) : sx w x m fs h (x + tof i) = some (.inr (2, tfs (x + tof i) s00.1)) := by
  obtain ⟨e1, e2, e3, e4, e5, e6, e7, e8⟩ := tno_of (i := i) (d := tof i) hi (by omega) (by omega)
  unfold sx
  rw [if_neg (by omega), if_pos (by omega), if_neg (by omega), SW_tab hi (by omega) (by omega)]
  exact blk_t
theorem sp_loop : ∀ (d k : Nat), k + d = 8 → Q (.inl none) (SW w x (fun _ => s00) (fun k => k + 4) 3 Z00 (fun _ => 0) (fun _ => 0) (fun _ => 0) (fun _ => 0) (fun _ => 0)) (some (x + 139)) → Ev X 4 94 [some (.ref x), some (.int (nI k))] [] (sx w x (51 + 11 * k) (sob x 3 Z00) (phk x k)) (some (x + (51 + 11 * k))) (50 + 11 * k) (503 + 96 * k) Q := by
  intro d
  induction d with
  | zero =>
    intro k hk hQ
    have e : k = 8 := by omega
    subst e
    refine X5_init_94.mpr (X5_init_95.mpr (X5_init_97.mpr ?_))
    rw [if_neg (show ¬ nI 8 < 8 by decide), X5_init_119]
    refine q_w ?_ hQ
    rw [phk_8]
    exact sx_end.symm
  | succ d ih =>
    intro k hk hQ
    have h8 : k < 8 := by omega
    refine X5_init_94.mpr (X5_init_95.mpr (X5_init_97.mpr ?_))
    rw [if_pos (show nI k < 8 from nI_lt h8 (by decide))]
    refine X5_init_100.mpr (X5_init_101.mpr ⟨_, gf_ok sx_x rfl, X5_init_104.mpr ?_⟩)
    refine (X5_init_105 (by omega) (by omega)).mpr (X5_init_108.mpr ((X5_init_109 (by omega) (by omega)).mpr (tb_new wset_s ?_)))
    have go : bk (wset (sx w x (51 + 11 * k) (sob x 3 Z00) (phk x k)) (x + (51 + 11 * k)) (.inr (2, dflt 2))) (x + (51 + 11 * k)) s00 = sx w x (51 + 11 * (k + 1)) (sob x 3 Z00) (phk x k) := by
      have z := sx_t (w := w) (x := x) (m := 51 + 11 * k) (fs := sob x 3 Z00) (h := phk x k) (u := wset (sx w x (51 + 11 * k) (sob x 3 Z00) (phk x k)) (x + (51 + 11 * k)) (.inr (2, dflt 2))) (i := k + 4) (by omega) tof_4 (fun a ha => wset_o (by omega))
      rw [show 51 + 11 * k + 11 = 51 + 11 * (k + 1) by omega] at z
      exact z
    rw [Kr_n, go]
    refine X5_init_112.mpr ⟨_, sx_s (by omega) h8 ?_, X5_init_113.mpr (X5_init_116.mpr ?_)⟩
    · have := sx_tab (w := w) (x := x) (m := 51 + 11 * (k + 1)) (fs := sob x 3 Z00) (h := phk x k) (i := k + 4) (by omega) (by rw [tof_4]; omega)
      rw [tof_4] at this
      exact this
    rw [phk_s h8, nI_1, show x + (51 + 11 * k) + 11 = x + (51 + 11 * (k + 1)) by omega, show 50 + 11 * k + 1 + 10 = 50 + 11 * (k + 1) by omega, show 503 + 96 * k + 8 + 88 = 503 + 96 * (k + 1) by omega]
    exact ih (k + 1) (by omega) hQ
theorem so_new (hw : w x = some (.inr (4, dflt 4))) (hQ : Q (.inl none) (SW w x (fun _ => s00) (fun k => k + 4) 3 Z00 (fun _ => 0) (fun _ => 0) (fun _ => 0) (fun _ => 0) (fun _ => 0)) (some (x + 139))) : Ev X 4 0 [some (.ref x), none] [] w (some (x + 1)) 0 0 Q := by
  have e0 : sx w x 1 (dflt 4) (anw 2 (x + 34) 8) = w := by
    funext a
    unfold sx
    by_cases c : a = x
    · rw [if_pos c, c, hw]
    · rw [if_neg c, if_neg (by omega)]
  refine ev_w e0 ?_
  have go : ∀ (i m m2 : Nat) (fs : List Value) (h : Nat → Value) (c : Cel), i < 12 → tof i = m → m + 11 = m2 → bk (wset (sx w x m fs h) (x + m) c) (x + m) s00 = sx w x m2 fs h := fun i m m2 fs h c hi hm h2 => by
    subst h2
    exact sx_t (u := wset (sx w x m fs h) (x + m) c) hi hm (fun a ha => wset_o (by omega))
  have g46 : ∀ (fs : List Value) (h : Nat → Value) (c : Cel), txt (wset (sx w x 46 fs h) (x + 46) c) (x + 46) (fun _ => 0) (fun _ => 0) (fun _ => 0) = sx w x 49 fs h := fun fs h c => sx_x46 (u := wset (sx w x 46 fs h) (x + 46) c) (fun a ha => wset_o (by omega))
  have g49 : ∀ (fs : List Value) (h : Nat → Value), wset (sx w x 49 fs h) (x + 49) (.inr (0, dflt 0)) = sx w x 50 fs h := fun fs h => sx_1 (m := 49) (by decide) (by decide) SW_49
  have g50 : ∀ (fs : List Value) (h : Nat → Value), wset (sx w x 50 fs h) (x + 50) (.inl (1, 40, fun _ => .int 0)) = sx w x 51 fs h := fun fs h => sx_1 (m := 50) (by decide) (by decide) SW_50
  refine X5_init_0.mpr (X5_init_1.mpr (X5_init_4.mpr ((X5_init_5 (by decide) (by decide)).mpr (X5_init_8.mpr ((X5_init_9 (by decide) (by decide)).mpr (tb_new wset_s ?_))))))
  rw [Kr_n, go 0 1 12 _ _ _ (by decide) rfl rfl]
  refine X5_init_12.mpr ⟨_, sx_pf (by decide) rfl, ?_⟩
  refine X5_init_15.mpr ((X5_init_16 (q := x + 12) (by decide) (by decide)).mpr (X5_init_19.mpr ((X5_init_20 (by decide) (by decide)).mpr (tb_new wset_s ?_))))
  rw [Kr_n, go 1 12 23 _ _ _ (by decide) rfl rfl]
  refine X5_init_23.mpr ⟨_, sx_pf (by simp only [List.length_set]; decide) rfl, ?_⟩
  refine X5_init_26.mpr ((X5_init_27 (q := x + 23) (by decide) (by decide)).mpr (X5_init_30.mpr ((X5_init_31 (by decide) (by decide)).mpr (tb_new wset_s ?_))))
  rw [Kr_n, go 2 23 34 _ _ _ (by decide) rfl rfl]
  refine X5_init_34.mpr ⟨_, sx_pf (by simp only [List.length_set]; decide) rfl, ?_⟩
  refine X5_init_37.mpr (X5_init_38.mpr ((X5_init_40 (q := x + 34) (m := 8) (by decide) (by decide) (by decide)).mpr ?_))
  refine ev_w sx_a.symm ?_
  refine X5_init_43.mpr ⟨_, sx_pf (by simp only [List.length_set]; decide) rfl, ?_⟩
  refine X5_init_46.mpr ((X5_init_47 (q := x + 35) (by decide) (by decide)).mpr (X5_init_50.mpr ((X5_init_51 (by decide) (by decide)).mpr (tb_new wset_s ?_))))
  rw [Kr_n, go 3 35 46 _ _ _ (by decide) rfl rfl]
  refine X5_init_54.mpr ⟨_, sx_pf (by simp only [List.length_set]; decide) rfl, ?_⟩
  refine X5_init_57.mpr ((X5_init_58 (q := x + 46) (by decide) (by decide)).mpr (X5_init_61.mpr ((X5_init_62 (by decide) (by decide)).mpr (tx_new wset_s ?_))))
  rw [Kr_n, g46]
  refine X5_init_65.mpr ⟨_, sx_pf (by simp only [List.length_set]; decide) rfl, ?_⟩
  refine X5_init_68.mpr (X5_init_69.mpr (X5_init_70.mpr ⟨_, sx_pf (by simp only [List.length_set]; decide) rfl, ?_⟩))
  refine X5_init_73.mpr ((X5_init_74 (q := x + 49) (by decide) (by decide)).mpr (X5_init_77.mpr ((X5_init_78 (by decide) (by decide)).mpr (refusal_new.mpr ?_))))
  rw [Kr_n, g49]
  refine X5_init_81.mpr ⟨_, sx_pf (by simp only [List.length_set]; decide) rfl, ?_⟩
  refine X5_init_84.mpr (X5_init_85.mpr ((X5_init_87 (q := x + 50) (m := 40) (by decide) (by decide) (by decide)).mpr ?_))
  rw [g50]
  refine X5_init_89.mpr ⟨_, sx_pf (by simp only [List.length_set]; decide) rfl, X5_init_92.mpr (X5_init_93.mpr ?_)⟩
  rw [show x + 50 + 1 = x + (51 + 11 * 0) by omega]
  refine ev_w ?_ (sp_loop 8 0 rfl hQ)
  have e1 : phk x 0 = anw 2 (x + 34) 8 := by
    funext j
    exact if_neg (Nat.not_lt_zero j)
  rw [e1]
  rfl
end CTR3
section LAWB
variable {X : Cxt} {w : Wld} {Q : (Option Value ⊕ String) → Wld → Option Nat → Prop} {x a : Nat} {st : Stk} {n : Option Nat} {c sl : Nat} {a0 a1 a2 a3 : Option Value}
theorem B_law_3 : Ev X 223 3 [a0, none, none, none, none, none, none, none, none] (.ref a :: st) w n c sl Q ↔ Ev X 223 4 [a0, none, none, none, none, none, none, none, none] (.ref a :: .ref a :: st) w n c sl Q := L_p rfl (show decode (mB 223) 3 = .ok (.dup, 1) by decide +kernel) rfl rfl
theorem B_law_11 : Ev X 223 11 [a0, a1, none, none, none, none, none, none, none] (.ref a :: st) w n c sl Q ↔ Ev X 223 12 [a0, a1, none, none, none, none, none, none, none] (.ref a :: .ref a :: st) w n c sl Q := L_p rfl (show decode (mB 223) 11 = .ok (.dup, 1) by decide +kernel) rfl rfl
theorem B_law_16 : Ev X 223 16 [a0, a1, a2, none, none, none, none, none, none] (st) w n c sl Q ↔ Ev X 223 17 [a0, a1, a2, none, none, none, none, none, none] (.int (1) :: st) w n c sl Q := L_p rfl (show decode (mB 223) 16 = .ok (.iconst 1, 1) by decide +kernel) rfl rfl
theorem B_law_20 : Ev X 223 20 [a0, a1, a2, a3, none, none, none, none, none] (st) w n c sl Q ↔ Ev X 223 21 [a0, a1, a2, a3, none, none, none, none, none] (.int (1) :: st) w n c sl Q := L_p rfl (show decode (mB 223) 20 = .ok (.iconst 1, 1) by decide +kernel) rfl rfl
theorem B_law_25 {a4 : Option Value} : Ev X 223 25 [a0, a1, a2, a3, a4, none, none, none, none] (st) w n c sl Q ↔ Ev X 223 26 [a0, a1, a2, a3, a4, none, none, none, none] (.int (0) :: st) w n c sl Q := L_p rfl (show decode (mB 223) 25 = .ok (.iconst 0, 1) by decide +kernel) rfl rfl
theorem out_ok {l d : Nat → Value} {o : Nat} : wset (wset w o (.inl (2, 1, l))) (o + 1) (.inl (3, 1, d)) = outW w o l d := by
  funext a
  unfold wset outW
  by_cases c : a = o
  · rw [if_neg (by omega), if_pos c, if_pos c]
  · rw [if_neg c, if_neg c]
theorem MW_w {u : Wld} {m : Nat} {e : Cel} {V N : Nat → Int32} {A : Nat → Nat → Int32} : MW (wset u m e) m V N A = MW u m V N A := by
  funext a
  unfold MW wset
  by_cases c : a = m
  · rw [if_pos c, if_pos c]
  · simp only [if_neg c]
/-- what the law asks of the world before it: nothing -/
theorem law_ok (hX : LitX X) (hl : X.2.2.2.2.2.1 ≤ 2048) (hQ : ∀ W n, Q (.inl (some (.int 1))) W n) : Ev X 223 0 [some (.ref X.2.2.2.2.1), none, none, none, none, none, none, none, none] [] w (some x) 0 0 Q := by
  refine (L_law_0 (by decide) (by decide)).mpr (B_law_3.mpr ((L_law_4 (by decide) (by decide)).mpr (so_new wset_s ?_)))
  rw [Kr_n]
  refine L_law_7.mpr ((L_law_8 (by decide) (by decide)).mpr (B_law_11.mpr ((L_law_12 (by decide) (by decide)).mpr (mo_new wset_s ?_))))
  rw [Kr_n]
  refine L_law_15.mpr (B_law_16.mpr ((L_law_17 (q := x + 148) (m := 1) (by decide) (by decide) (by decide)).mpr (L_law_19.mpr (B_law_20.mpr ((L_law_21 (q := x + 148 + 1) (m := 1) (by decide) (by decide) (by decide)).mpr (L_law_23.mpr (B_law_25.mpr (L_law_26.mpr ?_))))))))
  rw [MW_w, out_ok]
  exact law_loop hX hl hQ 513 0 0 _ _ _ _ _ _ _ _ _ _ _ _ _ _ _ _ _ _ _ _ (by omega) (by decide) (by decide) (by decide) (by decide) rel_start
end LAWB
