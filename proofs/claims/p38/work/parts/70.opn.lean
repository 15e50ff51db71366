/-! ===== the opening ===== -/
section OPN
variable {X : Cxt} {w w0 : Wld} {n x m N B : Nat} {Q : (Option Value ⊕ String) → Wld → Option Nat → Prop} {cu : Tb} {hi : List Tb} {sa : Option Tb} {wy : Int32 × Int32 × Int32} {fl : Int32} {tx : List Int32}
theorem O_join {p1 p2 p3 v : Int32} {s2 : Tb} (h : AW x w0 m N (cu, hi, sa, wy, fl, tx) w n) (e : addF (cntOf cu) p1 p2 p3 cu = .inr (v, s2)) (hg : Iv B cu) (hQ : ∀ w n, AW x w0 m (N + 1) (s2, pushH hi cu, sa, wy, fl, tx) w n → Q (.inl (some (.int v))) w (some n)) : Ev X 79 0 [some (.ref x), some (.int p1), some (.int p2), some (.int p3), none] [] w (some n) 0 0 Q := by
  refine A_join (s := (cu, hi, sa, wy, fl, tx)) hg h ?_
  rw [show addF (cntOf cu) p1 p2 p3 cu = _ from e]
  exact hQ
theorem O_leave {v : Int32} {s2 : Tb} (h : AW x w0 m N (cu, hi, sa, wy, fl, tx) w n) (e : remF (cntOf cu) cu = .inr (v, s2)) (hg : Iv B cu) (hQ : ∀ w n, AW x w0 m (N + 1) (s2, pushH hi cu, sa, wy, fl, tx) w n → Q (.inl (some (.int v))) w (some n)) : Ev X 81 0 [some (.ref x), none] [] w (some n) 0 0 Q := by
  refine A_leave (s := (cu, hi, sa, wy, fl, tx)) hg h ?_
  rw [show remF (cntOf cu) cu = _ from e]
  exact hQ
theorem O_bring {p1 v : Int32} {s2 : Tb} (h : AW x w0 m N (cu, hi, sa, wy, fl, tx) w n) (e : briF p1 cu = .inr (v, s2)) (hg : Iv B cu) (hQ : ∀ w n, AW x w0 m (N + 1) (s2, pushH hi cu, sa, wy, fl, tx) w n → Q (.inl (some (.int v))) w (some n)) : Ev X 17 0 [some (.ref x), some (.int p1), none] [] w (some n) 0 0 Q := by
  refine A_bring (s := (cu, hi, sa, wy, fl, tx)) hg h ?_
  rw [show briF p1 cu = _ from e]
  exact hQ
theorem O_pass {p1 v : Int32} {s2 : Tb} (h : AW x w0 m N (cu, hi, sa, wy, fl, tx) w n) (e : pasF (cntOf cu) p1 cu = .inr (v, s2)) (hg : Iv B cu) (hB : B < 2 ^ 24) (hQ : ∀ w n, AW x w0 m (N + 1) (s2, pushH hi cu, sa, wy, fl, tx) w n → Q (.inl (some (.int v))) w (some n)) : Ev X 85 0 [some (.ref x), some (.int p1), none] [] w (some n) 0 0 Q := by
  refine A_pass (s := (cu, hi, sa, wy, fl, tx)) hg hB h ?_
  rw [show pasF (cntOf cu) p1 cu = _ from e]
  exact hQ
theorem O_undo {t : Tb} (h : AW x w0 m N (cu, hi ++ [t], sa, wy, fl, tx) w n) (hQ : ∀ w n, AW x w0 m (N + 1) (t, hi, sa, wy, fl, tx) w n → Q (.inl (some (.int (nI hi.length)))) w (some n)) : Ev X 8 0 [some (.ref x), none] [] w (some n) 0 0 Q := A_undo (s := (cu, hi ++ [t], sa, wy, fl, tx)) rfl h hQ
theorem AW.new {N : Nat} (hN : x + 139 ≤ N) : AW x w (x + 139) N (s00, [], none, (0, 0, 0), -1, []) (SW w x (fun _ => s00) (fun k => k + 4) 3 Z00 (fun _ => 0) (fun _ => 0) (fun _ => 0) (fun _ => 0) (fun _ => 0)) (x + 139) := by
  refine ⟨[], w, fun _ => s00, fun k => k + 4, 3, Z00, fun _ => 0, fun _ => 0, fun _ => 0, fun _ => 0, fun _ => 0, rfl, fun _ _ => rfl, ?_⟩
  refine AWd.mk (Nat.le_refl _) hN ⟨fun k hk => ⟨Nat.le_add_left 3 (k + 1), Nat.add_lt_add_right hk 4⟩, ⟨by decide, by decide⟩, fun j k _ _ e => Nat.add_right_cancel e, fun k _ e => absurd (show k + 4 = 3 from e) (by omega)⟩ rfl (Nat.zero_le _) rfl (fun k hk => absurd hk (Nat.not_lt_zero k)) rfl rfl ⟨rfl, rfl, rfl⟩ rfl (fun k hk => absurd hk (Nat.not_lt_zero k)) (Nat.zero_le _) rfl (fun k hk => absurd hk (Nat.not_lt_zero k)) (Nat.zero_le _) (fun k hk => absurd hk (Nat.not_lt_zero k)) (fun i _ j hj => if_neg (by omega))
def txA (k : Nat) : List Int32 := (List.range k).map (fun i => nI (65 + i))
theorem txA_len {k : Nat} : (txA k).length = k := by unfold txA; rw [List.length_map, List.length_range]
theorem txA_s {k : Nat} : txA (k + 1) = txA k ++ [nI (65 + k)] := by unfold txA; rw [List.range_succ, List.map_append]; rfl
theorem chr65 : ∀ k : Nat, k < 60 → (((65 : Int32) + nI k).toUInt32 % 65536).toInt32 = nI (65 + k) ∧ narrow .char (.int (nI (65 + k))) = .int (nI (65 + k)) := by decide +kernel
theorem txA_chr {k : Nat} (hk : k ≤ 60) : ∀ c, c ∈ txA k → chr16 c := by
  intro c hc
  unfold txA at hc
  obtain ⟨i, h1, h2⟩ := List.mem_map.mp hc
  have := List.mem_range.mp h1
  exact ⟨65 + i, by omega, h2.symm⟩
theorem txA_flt {C D : Nat → Int32} (h : ∀ k, k < (txA 60).length → (txA 60)[k]? = some (C k)) : fltN (txA 60).length C 60 0 D = some 0 := by
  have c0 : C 0 = 65 := cC h (by decide) (by decide)
  show fltN 60 C (59 + 1) 0 D = some 0
  rw [fltN]
  have e : cmdN 60 C 0 D = none := by
    unfold cmdN
    rw [if_pos (by decide), c0]
    rfl
  rw [e]
/-- what undo would bring back while the eight join -/
def hkL (k : Nat) : List Tb := if k < 8 then s00 :: (List.range k).map jT else (List.range 8).map jT
theorem hkL_s {k : Nat} (h : k < 8) : pushH (hkL k) (jT k) = hkL (k + 1) := by
  rcases (show k = 0 ∨ k = 1 ∨ k = 2 ∨ k = 3 ∨ k = 4 ∨ k = 5 ∨ k = 6 ∨ k = 7 by omega) with rfl | rfl | rfl | rfl | rfl | rfl | rfl | rfl <;> rfl
theorem rem2 : ∀ k : Nat, k < 8 → nI k - nI k / 2 * 2 = nI (k % 2) := by decide
theorem bri_no : briF 1 (jT 0) = .inl (2, 99) := by
  unfold briF
  rw [if_neg (by decide), if_neg (by decide), if_pos (by decide)]
theorem Pq_eaters (h : AW x w0 m N (pT, hi, sa, wy, fl, tx) w n) (hQ : ∀ w n, AW x w0 m N (pT, hi, sa, wy, fl, tx) w n → Q (.inl (some (.int 41))) w (some n)) : Ev X 97 0 [some (.ref x), none, none] [] w (some n) 0 0 Q := by
  refine A_eaters (B := 99) (s := (pT, hi, sa, wy, fl, tx)) p_iv h ?_
  have e : itr (eatF pT.2.2) (cntOf pT) 0 = 41 := by rw [p_cnt]; exact p_eat
  show ∀ w n, _ → Q (.inl (some (.int (itr (eatF pT.2.2) (cntOf pT) 0)))) w (some n)
  rw [e]
  exact hQ
theorem Pq_stuck (h : AW x w0 m N (pT, hi, sa, wy, fl, tx) w n) (hQ : ∀ w n, AW x w0 m N (pT, hi, sa, wy, fl, tx) w n → Q (.inl (some (.int 0))) w (some n)) : Ev X 98 0 [some (.ref x)] [] w (some n) 0 0 Q := by
  refine A_stuck (B := 99) (s := (pT, hi, sa, wy, fl, tx)) p_iv h ?_
  have e : stuI (cntOf pT) pT.1 pT.2.1 pT.2.2 = 0 := by rw [p_cnt]; exact p_stuck
  show ∀ w n, _ → Q (.inl (some (.int (stuI (cntOf pT) pT.1 pT.2.1 pT.2.2)))) w (some n)
  rw [e]
  exact hQ
theorem Pq_held (h : AW x w0 m N (pT, hi, sa, wy, fl, tx) w n) (hQ : ∀ w n, AW x w0 m (N + 1) (pT, hi, sa, wy, fl, tx) w n → Q (.inl (some (.int 7))) w (some n)) : Ev X 29 0 [some (.ref x), some (.int 6), none] [] w (some n) 0 0 Q := by
  refine A_account (B := 99) (s := (pT, hi, sa, wy, fl, tx)) (j := 6) p_iv (by decide) h ?_
  have e : itr (heldF pT.2.1) (cntOf pT) 0 = 7 := by rw [p_cnt]; exact p_held
  show ∀ w n, _ → Q (.inl (some (.int (itr (heldF pT.2.1) (cntOf pT) 0)))) w (some n)
  rw [e]
  exact hQ
theorem Pq_w2 (h : AW x w0 m N (pT, hi, sa, wy, fl, tx) w n) (hQ : ∀ w n, AW x w0 m (N + 1) (pT, hi, sa, wy, fl, tx) w n → Q (.inl (some (.int 1))) w (some n)) : Ev X 100 0 [some (.ref x), some (.int 2), none] [] w (some n) 0 0 Q := by
  refine A_waitsFor (B := 99) (s := (pT, hi, sa, wy, fl, tx)) (k := 2) p_iv (show 2 < cntOf pT by rw [p_cnt]; decide) h ?_
  show ∀ w n, _ → Q (.inl (some (.int (waV pT 2)))) w (some n)
  rw [p_w2]
  exact hQ
theorem Pq_w7 (h : AW x w0 m N (pT, hi, sa, wy, fl, tx) w n) (hQ : ∀ w n, AW x w0 m (N + 1) (pT, hi, sa, wy, fl, tx) w n → Q (.inl (some (.int 0))) w (some n)) : Ev X 100 0 [some (.ref x), some (.int 7), none] [] w (some n) 0 0 Q := by
  refine A_waitsFor (B := 99) (s := (pT, hi, sa, wy, fl, tx)) (k := 7) p_iv (show 7 < cntOf pT by rw [p_cnt]; decide) h ?_
  show ∀ w n, _ → Q (.inl (some (.int (waV pT 7)))) w (some n)
  rw [p_w7]
  exact hQ
theorem op_1 (hQ : ∀ w p w0, AW x w0 (x + 139) (x + 150) (jT 0, [s00], some s00, (2, 99, 0), -1, []) w p → Ev X 172 70 [some (.ref X.2.2.2.2.1), some (.ref x), none, none, none, none, none, none, none, none, none] [] w (some p) 0 0 Q) : Ev X 172 0 [some (.ref X.2.2.2.2.1), none, none, none, none, none, none, none, none, none, none] [] w (some x) 0 0 Q := by
  refine L_law_0.mpr (L_law_3.mpr (L_law_4.mpr (so_new wset_s ?_)))
  have h := AW.new (x := x) (w := wset w x (.inr (4, dflt 4))) (N := x + 139) (Nat.le_refl _)
  generalize SW (wset w x (.inr (4, dflt 4))) x (fun _ => s00) (fun k => k + 4) 3 Z00 (fun _ => 0) (fun _ => 0) (fun _ => 0) (fun _ => 0) (fun _ => 0) = w1 at h ⊢
  first | refine L_law_7_I.mpr ?_ | refine L_law_7_R.mpr ?_ | refine L_law_7_none.mpr ?_
  refine L_law_8.mpr (?_)
  refine L_law_9.mpr ?_
  refine A_undo_no rfl h ?_
  clear h
  intro w p h
  refine L_law_12.mpr (?_)
  refine L_law_15.mpr (ifT (rfl) ?_)
  refine L_law_18.mpr (?_)
  refine L_law_19.mpr ?_
  refine A_restore_no rfl h ?_
  clear h
  intro w p h
  refine L_law_22.mpr (?_)
  refine L_law_25.mpr (ifT (rfl) ?_)
  refine L_law_28.mpr (?_)
  refine (L_law_29 h.c).mpr ?_
  refine A_save h ?_
  clear h
  intro w p h
  refine L_law_32.mpr (ifT (rfl) ?_)
  refine L_law_35.mpr (L_law_36.mpr (?_))
  refine L_law_38.mpr ?_
  refine O_bring h o_bri s00_iv ?_
  clear h
  intro w p h
  refine L_law_41.mpr (?_)
  refine L_law_43.mpr (ifT (rfl) ?_)
  refine L_law_46.mpr (L_law_47.mpr (?_))
  refine L_law_48.mpr ?_
  refine R_bring h bri_no (j_iv 0 (by decide)) ?_
  clear h
  intro w p h
  refine L_law_51.mpr (?_)
  refine L_law_54.mpr (ifT (rfl) ?_)
  refine L_law_57.mpr (L_law_58.mpr (L_law_59.mpr (L_law_61.mpr (?_))))
  refine L_law_62.mpr ?_
  refine A_is rfl (by decide) h ?_
  clear h
  intro w p h
  refine L_law_65.mpr (ifF (by decide) ?_)
  exact hQ _ _ _ (h.up (by omega))
theorem op_2 (hX : LitY X) (h : AW x w0 m N (jT 0, [s00], some s00, (2, 99, 0), -1, []) w n) (hQ : ∀ w p, AW x w0 m (N + 66) (jT 0, [s00], some s00, (2, 99, 0), nI 0, []) w p → Ev X 172 152 [some (.ref X.2.2.2.2.1), some (.ref x), some (.int 60), none, none, none, none, none, none, none, none] [] w (some p) 0 0 Q) : Ev X 172 70 [some (.ref X.2.2.2.2.1), some (.ref x), none, none, none, none, none, none, none, none, none] [] w (some n) 0 0 Q := by
  refine L_law_70.mpr (?_)
  first | refine L_law_71_I.mpr ?_ | refine L_law_71_R.mpr ?_ | refine L_law_71_none.mpr ?_
  refine lpN (α := Unit) (E := fun k _ w p => Ev X 172 72 [some (.ref X.2.2.2.2.1), some (.ref x), some (.int (nI k)), none, none, none, none, none, none, none, none] [] w (some p) 0 0 Q) (A := fun k w p => AW x w0 m (N + k) (jT 0, [s00], some s00, (2, 99, 0), -1, txA k) w p) (f := fun _ u => u) (n := 60) (a0 := ()) (fun k _ w p hk h next => ?_) (fun w p h => ?_) w n h
  · refine L_law_72.mpr (L_law_73.mpr (?_))
    refine L_law_75.mpr (ifT (show nI k < nI 60 from nI_lt hk (by decide)) ?_)
    refine L_law_78.mpr (L_law_79.mpr (L_law_81.mpr (L_law_82.mpr (L_law_83.mpr (?_)))))
    rw [(chr65 k hk).1]
    refine L_law_84.mpr ?_
    refine A_append (chr65 k hk).2 (show (txA k).length < 60 by rw [txA_len]; exact hk) h ?_
    clear h
    intro w p h
    refine L_law_87.mpr (L_law_88.mpr (L_law_89.mpr (?_)))
    refine L_law_90.mpr (ifT (show nI ((txA k).length + 1) = nI k + 1 by rw [txA_len, nI_1]) ?_)
    first | refine L_law_95_I.mpr ?_ | refine L_law_95_R.mpr ?_ | refine L_law_95_none.mpr ?_
    refine L_law_98.mpr (?_)
    rw [nI_1]
    refine next _ _ ?_
    show AW x w0 m (N + k + 1) (jT 0, [s00], some s00, (2, 99, 0), -1, txA (k + 1)) w p
    rw [txA_s]
    exact h
  · refine L_law_72.mpr (L_law_73.mpr (?_))
    refine L_law_75.mpr (ifF (show ¬ nI 60 < nI 60 from iirr) ?_)
    refine L_law_101.mpr (L_law_102.mpr (?_))
    refine L_law_104.mpr ?_
    refine A_append_no (by decide +kernel) txA_len h ?_
    clear h
    intro w p h
    refine L_law_107.mpr (?_)
    refine L_law_110.mpr (ifT (rfl) ?_)
    refine L_law_113.mpr (L_law_114.mpr (?_))
    refine L_law_116.mpr ?_
    refine A_account (j := 11) (j_iv 0 (by decide)) (by decide) h ?_
    clear h
    intro w p h
    refine L_law_119.mpr (?_)
    refine L_law_121.mpr (ifT (rfl) ?_)
    refine L_law_124.mpr (?_)
    refine L_law_125.mpr ?_
    refine A_commands hX.lx (j_iv 0 (by decide)) (by decide) (txA_chr (by decide)) h ?_ (fun C D D1 j u v w p h1 h2 _ _ => by rw [txA_flt h1] at h2; cases h2) (fun C D D1 j s2 w p h1 h2 _ _ _ => by rw [txA_flt h1] at h2; cases h2)
    clear h
    intro C D q w p e1 e2 h
    rw [txA_flt e1] at e2
    cases e2
    refine L_law_128.mpr (?_)
    refine L_law_131.mpr (ifT (rfl) ?_)
    refine L_law_134.mpr (?_)
    refine (L_law_135 h.c).mpr ?_
    refine A_faultPosition h ?_
    clear h
    intro w p h
    refine L_law_138.mpr (ifT (rfl) ?_)
    refine L_law_141.mpr (L_law_142.mpr (?_))
    refine L_law_144.mpr ?_
    refine A_account (j := 11) (j_iv 0 (by decide)) (by decide) h ?_
    clear h
    intro w p h
    refine L_law_147.mpr (ifT (rfl) ?_)
    exact hQ _ _ (h.up (by omega))
theorem op_3 (h : AW x w0 m N (jT 0, [s00], some s00, (2, 99, 0), nI 0, []) w n) (hQ : ∀ w p, AW x w0 m (N + 20) (jT 8, [jT 2, jT 3, jT 4, jT 5, jT 6, jT 7, jT 8, kT], some s00, (2, 8, 0), nI 0, []) w p → Ev X 172 248 [some (.ref X.2.2.2.2.1), some (.ref x), some (.int 8), none, none, none, none, none, none, none, none] [] w (some p) 0 0 Q) : Ev X 172 152 [some (.ref X.2.2.2.2.1), some (.ref x), some (.int 60), none, none, none, none, none, none, none, none] [] w (some n) 0 0 Q := by
  refine L_law_152.mpr (?_)
  first | refine L_law_153_I.mpr ?_ | refine L_law_153_R.mpr ?_ | refine L_law_153_none.mpr ?_
  refine lpN (α := Unit) (E := fun k _ w p => Ev X 172 154 [some (.ref X.2.2.2.2.1), some (.ref x), some (.int (nI k)), none, none, none, none, none, none, none, none] [] w (some p) 0 0 Q) (A := fun k w p => AW x w0 m (N + k) (jT k, hkL k, some s00, (2, 99, 0), nI 0, []) w p) (f := fun _ u => u) (n := 8) (a0 := ()) (fun k _ w p hk h next => ?_) (fun w p h => ?_) w n h
  · refine L_law_154.mpr (L_law_155.mpr (?_))
    refine L_law_157.mpr (ifT (show nI k < nI 8 from nI_lt hk (by decide)) ?_)
    refine L_law_160.mpr (L_law_161.mpr (L_law_162.mpr (?_)))
    refine (L_law_163 (by decide)).mpr ?_
    rw [rem2 k hk]
    refine L_law_164.mpr (L_law_165.mpr (?_))
    refine L_law_167.mpr ?_
    refine O_join h (o_add hk rfl) (j_iv k (by omega)) ?_
    clear h
    intro w p h
    refine L_law_170.mpr (?_)
    refine L_law_171.mpr (ifT (rfl) ?_)
    first | refine L_law_176_I.mpr ?_ | refine L_law_176_R.mpr ?_ | refine L_law_176_none.mpr ?_
    refine L_law_179.mpr (?_)
    rw [nI_1]
    refine next _ _ ?_
    rw [hkL_s hk] at h
    exact h
  · refine L_law_154.mpr (L_law_155.mpr (?_))
    refine L_law_157.mpr (ifF (show ¬ nI 8 < nI 8 from iirr) ?_)
    refine L_law_182.mpr (L_law_183.mpr (L_law_184.mpr (L_law_185.mpr (?_))))
    refine L_law_186.mpr ?_
    refine R_join h o_add8 (j_iv 8 (by decide)) ?_
    clear h
    intro w p h
    refine L_law_189.mpr (?_)
    refine L_law_192.mpr (ifT (rfl) ?_)
    refine L_law_195.mpr (L_law_196.mpr (L_law_197.mpr (L_law_199.mpr (?_))))
    refine L_law_200.mpr ?_
    refine A_is rfl (by decide) h ?_
    clear h
    intro w p h
    refine L_law_203.mpr (ifF (by decide) ?_)
    refine L_law_206.mpr (?_)
    refine L_law_207.mpr ?_
    refine O_leave h o_rem (j_iv 8 (by decide)) ?_
    clear h
    intro w p h
    refine L_law_210.mpr (?_)
    refine L_law_212.mpr (ifT (rfl) ?_)
    refine L_law_215.mpr (L_law_216.mpr (L_law_217.mpr (L_law_218.mpr (?_))))
    refine L_law_220.mpr ?_
    refine O_join h o_addk k_iv ?_
    clear h
    intro w p h
    refine L_law_223.mpr (?_)
    refine L_law_225.mpr (ifT (rfl) ?_)
    refine L_law_228.mpr (?_)
    refine (L_law_229 h.c).mpr ?_
    refine A_isSure (j_iv 8 (by decide)) h ?_
    clear h
    intro w p h
    refine L_law_232.mpr (ifF (by rw [cnt_jT (by decide), j_sure]; decide) ?_)
    refine L_law_235.mpr (L_law_236.mpr (?_))
    refine L_law_238.mpr ?_
    refine A_account (j := 10) (j_iv 8 (by decide)) (by decide) h ?_
    clear h
    intro w p h
    refine L_law_241.mpr (?_)
    refine L_law_243.mpr (ifT (rfl) ?_)
    exact hQ _ _ (h.up (by omega))
theorem op_4 (hX : LitY X) (h : AW x w0 m N (jT 8, [jT 2, jT 3, jT 4, jT 5, jT 6, jT 7, jT 8, kT], some s00, (2, 8, 0), nI 0, []) w n) (hQ : ∀ w p, AW x w0 m (N + 70) (jT 3, [], some s00, (2, 8, 0), nI 0, []) w p → Ev X 172 434 [some (.ref X.2.2.2.2.1), some (.ref x), some (.int 8), none, none, none, none, none, none, none, none] [] w (some p) 0 0 Q) : Ev X 172 248 [some (.ref X.2.2.2.2.1), some (.ref x), some (.int 8), none, none, none, none, none, none, none, none] [] w (some n) 0 0 Q := by
  refine L_law_248.mpr (L_law_249.mpr (?_))
  refine L_law_250.mpr ?_
  refine O_pass h o_pas (j_iv 8 (by decide)) (by decide) ?_
  clear h
  intro w p h
  refine L_law_253.mpr (ifT (rfl) ?_)
  refine L_law_256.mpr (L_law_257.mpr (?_))
  refine L_law_260.mpr ?_
  refine A_isLine (s := (pT, _, _, _, _, _)) hX.lx p_iv (fun _ => hX.str (j := 11) (by decide)) (lit_asc (j := 11) (by decide)) p_line h ?_
  clear h
  intro w p h
  refine L_law_263.mpr (ifF (by decide) ?_)
  refine L_law_266.mpr (?_)
  refine (L_law_267 h.c).mpr ?_
  refine Pq_eaters h ?_
  clear h
  intro w p h
  refine L_law_270.mpr (?_)
  refine L_law_272.mpr (ifT (rfl) ?_)
  refine L_law_275.mpr (L_law_276.mpr (?_))
  refine L_law_278.mpr ?_
  refine Pq_held h ?_
  clear h
  intro w p h
  refine L_law_281.mpr (?_)
  refine L_law_283.mpr (ifT (rfl) ?_)
  refine L_law_286.mpr (?_)
  refine (L_law_287 h.c).mpr ?_
  refine Pq_stuck h ?_
  clear h
  intro w p h
  refine L_law_290.mpr (ifT (rfl) ?_)
  refine L_law_293.mpr (L_law_294.mpr (?_))
  refine L_law_295.mpr ?_
  refine Pq_w2 h ?_
  clear h
  intro w p h
  refine L_law_298.mpr (?_)
  refine L_law_299.mpr (ifT (rfl) ?_)
  refine L_law_302.mpr (L_law_303.mpr (?_))
  refine L_law_305.mpr ?_
  refine Pq_w7 h ?_
  clear h
  intro w p h
  refine L_law_308.mpr (ifT (rfl) ?_)
  refine L_law_311.mpr (?_)
  refine L_law_312.mpr ?_
  refine O_undo (hi := [jT 3, jT 4, jT 5, jT 6, jT 7, jT 8, kT]) (t := jT 8) h ?_
  clear h
  intro w p h
  refine L_law_315.mpr (?_)
  refine L_law_317.mpr (ifT (rfl) ?_)
  refine L_law_320.mpr (L_law_321.mpr (?_))
  refine L_law_323.mpr ?_
  refine A_account (j := 6) (j_iv 8 (by decide)) (by decide) h ?_
  clear h
  intro w p h
  refine L_law_326.mpr (ifT (by show itr (heldF (jT 8).2.1) (cntOf (jT 8)) 0 = 0; rw [cnt_jT (by decide)]; exact j_held0 (by decide)) ?_)
  refine L_law_329.mpr (L_law_330.mpr (?_))
  refine L_law_331.mpr ?_
  refine A_account (j := 0) (j_iv 8 (by decide)) (by decide) h ?_
  clear h
  intro w p h
  refine L_law_334.mpr (ifT (rfl) ?_)
  refine L_law_337.mpr (?_)
  refine L_law_338.mpr ?_
  refine O_undo (hi := [jT 3, jT 4, jT 5, jT 6, jT 7, jT 8]) (t := kT) h ?_
  clear h
  intro w p h
  refine L_law_341.mpr (?_)
  refine L_law_343.mpr (ifT (rfl) ?_)
  refine L_law_346.mpr (L_law_347.mpr (?_))
  refine L_law_348.mpr ?_
  refine A_account (j := 1) k_iv (by decide) h ?_
  clear h
  intro w p h
  refine L_law_351.mpr (?_)
  refine L_law_353.mpr (ifT (rfl) ?_)
  refine L_law_356.mpr (?_)
  refine L_law_357.mpr ?_
  refine O_undo (hi := [jT 3, jT 4, jT 5, jT 6, jT 7]) (t := jT 8) h ?_
  clear h
  intro w p h
  refine L_law_360.mpr (?_)
  refine L_law_361.mpr (ifT (rfl) ?_)
  refine L_law_364.mpr (L_law_365.mpr (?_))
  refine L_law_366.mpr ?_
  refine A_account (j := 1) (j_iv 8 (by decide)) (by decide) h ?_
  clear h
  intro w p h
  refine L_law_369.mpr (?_)
  refine L_law_371.mpr (ifT (rfl) ?_)
  refine L_law_374.mpr (?_)
  refine L_law_375.mpr ?_
  refine O_undo (hi := [jT 3, jT 4, jT 5, jT 6]) (t := jT 7) h ?_
  clear h
  intro w p h
  refine L_law_378.mpr (?_)
  refine L_law_379.mpr (ifT (rfl) ?_)
  refine L_law_382.mpr (?_)
  refine L_law_383.mpr ?_
  refine O_undo (hi := [jT 3, jT 4, jT 5]) (t := jT 6) h ?_
  clear h
  intro w p h
  refine L_law_386.mpr (?_)
  refine L_law_387.mpr (ifT (rfl) ?_)
  refine L_law_390.mpr (?_)
  refine L_law_391.mpr ?_
  refine O_undo (hi := [jT 3, jT 4]) (t := jT 5) h ?_
  clear h
  intro w p h
  refine L_law_394.mpr (?_)
  refine L_law_395.mpr (ifT (rfl) ?_)
  refine L_law_398.mpr (?_)
  refine L_law_399.mpr ?_
  refine O_undo (hi := [jT 3]) (t := jT 4) h ?_
  clear h
  intro w p h
  refine L_law_402.mpr (?_)
  refine L_law_403.mpr (ifT (rfl) ?_)
  refine L_law_406.mpr (?_)
  refine L_law_407.mpr ?_
  refine O_undo (hi := []) (t := jT 3) h ?_
  clear h
  intro w p h
  refine L_law_410.mpr (ifT (rfl) ?_)
  refine L_law_413.mpr (?_)
  refine L_law_414.mpr ?_
  refine A_undo_no rfl h ?_
  clear h
  intro w p h
  refine L_law_417.mpr (?_)
  refine L_law_420.mpr (ifT (rfl) ?_)
  refine L_law_423.mpr (L_law_424.mpr (?_))
  refine L_law_425.mpr ?_
  refine A_account (j := 1) (j_iv 3 (by decide)) (by decide) h ?_
  clear h
  intro w p h
  refine L_law_428.mpr (?_)
  refine L_law_429.mpr (ifT (rfl) ?_)
  exact hQ _ _ (h.up (by simp only [show (LBY.getD 11 []).length = 31 from rfl]; omega))
theorem op_5 (h : AW x w0 m N (jT 3, [], some s00, (2, 8, 0), nI 0, []) w n) (hQ : ∀ w p, p ≤ N + 10 → m ≤ p → Ev X 172 471 [some (.ref X.2.2.2.2.1), some (.ref x), some (.int 8), none, none, none, none, none, none, none, none] [] w (some p) 0 0 Q) : Ev X 172 434 [some (.ref X.2.2.2.2.1), some (.ref x), some (.int 8), none, none, none, none, none, none, none, none] [] w (some n) 0 0 Q := by
  refine L_law_434.mpr (?_)
  refine L_law_435.mpr ?_
  refine A_restore rfl h ?_
  clear h
  intro w p h
  refine L_law_438.mpr (ifT (rfl) ?_)
  refine L_law_441.mpr (L_law_442.mpr (?_))
  refine L_law_443.mpr ?_
  refine A_account (j := 2) s00_iv (by decide) h ?_
  clear h
  intro w p h
  refine L_law_446.mpr (?_)
  refine L_law_448.mpr (ifT (rfl) ?_)
  refine L_law_451.mpr (L_law_452.mpr (?_))
  refine L_law_453.mpr ?_
  refine A_account (j := 1) s00_iv (by decide) h ?_
  clear h
  intro w p h
  refine L_law_456.mpr (ifT (rfl) ?_)
  refine L_law_459.mpr (?_)
  refine L_law_460.mpr ?_
  refine A_undo_no rfl h ?_
  clear h
  intro w p h
  refine L_law_463.mpr (?_)
  refine L_law_466.mpr (ifT (rfl) ?_)
  obtain ⟨lt, w1, T, pa, be, Z, P, C, D, R, Lt, rfl, hw, a⟩ := h
  exact hQ _ _ (Nat.le_trans a.nN (by omega)) a.mn
theorem op_all (hX : LitY X) (hQ : ∀ w p, x + 139 ≤ p → p ≤ x + 400 → Ev X 172 471 [some (.ref X.2.2.2.2.1), some (.ref x), some (.int 8), none, none, none, none, none, none, none, none] [] w (some p) 0 0 Q) : Ev X 172 0 [some (.ref X.2.2.2.2.1), none, none, none, none, none, none, none, none, none, none] [] w (some x) 0 0 Q :=
  op_1 fun _ _ _ h => op_2 hX h fun _ _ h => op_3 h fun _ _ h => op_4 hX h fun _ _ h => op_5 h fun _ _ h1 h2 => hQ _ _ h2 (by omega)
end OPN
