/-! ===== constructors: a table, a text, the reference ===== -/
section CTR2
variable {X : Cxt} {w : Wld} {Q : (Option Value ⊕ String) → Wld → Option Nat → Prop} {t a b ci k : Nat} {fs : List Value} {v : Value}
theorem ev_w {M pc c sl : Nat} {ls : Lcs} {st : Stk} {n : Option Nat} {w2 : Wld} (e : w2 = w) (h : Ev X M pc ls st w2 n c sl Q) : Ev X M pc ls st w n c sl Q := e ▸ h
theorem q_w {o : Option Value ⊕ String} {n : Option Nat} {w2 : Wld} (e : w2 = w) (h : Q o w2 n) : Q o w n := e ▸ h
theorem wset_s {e : Cel} : wset w a e a = some e := if_pos rfl
theorem wset_o {e : Cel} (h : b ≠ a) : wset w a e b = w b := if_neg h
theorem pf_ok (h : w a = some (.inr (ci, fs))) (hk : k < fs.length) (hv : okv (fty ci k) v = true) : pf w a ci k v = some (wset w a (.inr (ci, fs.set k v))) := by
  unfold pf
  rw [h]
  dsimp only
  rw [if_pos ⟨rfl, hk, hv⟩]
theorem gf_ok {u : Value} (h : w a = some (.inr (ci, fs))) (hu : fs[k]? = some u) : gf w a ci k = some u := by
  unfold gf
  rw [h]
  dsimp only
  rw [if_pos rfl, hu]
theorem sa_ok {ty len : Nat} {f : Nat → Value} (h : w a = some (.inl (ty, len, f))) (hk : k < len) (hl : len < 2 ^ 31) : sa w a ty (nI k) v = some (wset w a (.inl (ty, len, updV f k v))) := by
  unfold sa
  rw [h]
  dsimp only
  rw [if_pos ⟨rfl, inr_nI hk hl⟩, nI_clamp (by omega)]
theorem hasc_ok (h : w a = some (.inr (ci, fs))) : hasc w a ci = true := by
  unfold hasc
  rw [h]
  exact decide_eq_true rfl
/-- a table half made -/
def tbk (w : Wld) (t k : Nat) : Wld := fun a => if a = t then some (.inr (2, tfs t s00.1)) else if a = t + 1 then some (.inl (4, 8, fun j => if j < k then .ref (t + 3 + j) else anw 1 (t + 1) 8 j)) else if a = t + 2 then some (.inl (0, 8, fun j => .int (if j < k then -1 else 0))) else if t + 3 ≤ a ∧ a < t + 3 + k then some (.inr (1, sfs (fun _ => 0))) else w a
theorem tbk_t : tbk w t k t = some (.inr (2, tfs t s00.1)) := if_pos rfl
theorem tbk_1 : tbk w t k (t + 1) = some (.inl (4, 8, fun j => if j < k then .ref (t + 3 + j) else anw 1 (t + 1) 8 j)) := by unfold tbk; rw [if_neg (by omega), if_pos rfl]
theorem tbk_2 : tbk w t k (t + 2) = some (.inl (0, 8, fun j => .int (if j < k then -1 else 0))) := by unfold tbk; rw [if_neg (by omega), if_neg (by omega), if_pos rfl]
theorem tbk_0 (e1 : Cel) (e2 : Cel) (h1 : e1 = .inl (4, 8, anw 1 (t + 1) 8)) (h2 : e2 = .inl (0, 8, fun _ => .int 0)) (u : Wld) (hu : ∀ a, a ≠ t → a ≠ t + 1 → a ≠ t + 2 → u a = w a) (h3 : u (t + 1) = some e1) (h4 : u (t + 2) = some e2) (h5 : u t = some (.inr (2, tfs t s00.1))) : tbk w t 0 = u := by
  subst h1; subst h2
  funext a
  unfold tbk
  by_cases a1 : a = t
  · rw [if_pos a1, a1, h5]
  by_cases a2 : a = t + 1
  · rw [if_neg a1, if_pos a2, a2, h3]
    rfl
  by_cases a3 : a = t + 2
  · rw [if_neg a1, if_neg a2, if_pos a3, a3, h4]
    rfl
  rw [if_neg a1, if_neg a2, if_neg a3, if_neg (by omega), hu a a1 a2 a3]
theorem tbk_8 : tbk w t 8 = bk w t s00 := by
  funext a
  show tbk w t 8 a = blk w t s00.1 s00.2.1 s00.2.2 a
  unfold tbk blk
  by_cases a1 : a = t
  · rw [if_pos a1, if_pos a1]
  rw [if_neg a1, if_neg a1]
  by_cases a2 : a = t + 1
  · rw [if_pos a2, if_pos a2]
    congr 4
    funext j
    by_cases c : j < 8
    · rw [if_pos c]
    · rw [if_neg c]
      unfold anw
      rw [if_neg c, if_pos rfl]
  rw [if_neg a2, if_neg a2]
  by_cases a3 : a = t + 2
  · rw [if_pos a3, if_pos a3]
    rfl
  rw [if_neg a3, if_neg a3]
  by_cases a4 : t + 3 ≤ a ∧ a < t + 11
  · rw [if_pos (by omega), if_pos a4]
    rfl
  · rw [if_neg (by omega), if_neg a4]
theorem tbk_step (hk : k < 8) : tbk w t (k + 1) = wset (wset (wset (tbk w t k) (t + 3 + k) (.inr (1, dflt 1))) (t + 1) (.inl (4, 8, updV (fun j => if j < k then .ref (t + 3 + j) else anw 1 (t + 1) 8 j) k (.ref (t + 3 + k))))) (t + 2) (.inl (0, 8, updV (fun j => .int (if j < k then -1 else 0)) k (.int (-1)))) := by
  funext a
  unfold wset tbk
  by_cases a3 : a = t + 2
  · rw [if_neg (by omega), if_neg (by omega), if_pos a3, if_pos a3]
    congr 4
    funext j
    unfold updV
    by_cases c : j = k
    · rw [if_pos c, if_pos (by omega)]
    · rw [if_neg c]
      by_cases d : j < k
      · dsimp only
        rw [if_pos (by omega), if_pos d]
      · dsimp only
        rw [if_neg (by omega), if_neg d]
  by_cases a2 : a = t + 1
  · rw [if_neg (by omega), if_pos a2, if_neg a3, if_pos a2]
    congr 4
    funext j
    unfold updV
    by_cases c : j = k
    · rw [if_pos c, if_pos (by omega), c]
    · rw [if_neg c]
      by_cases d : j < k
      · dsimp only
        rw [if_pos (by omega), if_pos d]
      · dsimp only
        rw [if_neg (by omega), if_neg d]
  by_cases a1 : a = t
  · rw [if_pos a1, if_neg a3, if_neg a2, if_neg (by omega), if_pos a1]
  by_cases a4 : a = t + 3 + k
  · rw [if_neg a1, if_neg a2, if_neg a3, if_pos (by omega), if_neg a3, if_neg a2, if_pos a4]
    rfl
  rw [if_neg a1, if_neg a2, if_neg a3, if_neg a3, if_neg a2, if_neg a4, if_neg a1, if_neg a2, if_neg a3]
  by_cases a5 : t + 3 ≤ a ∧ a < t + 3 + k
  · rw [if_pos (by omega), if_pos a5]
  · rw [if_neg (by omega), if_neg a5]
theorem tb_loop : ∀ (d k : Nat), k + d = 8 → Q (.inl none) (bk w t s00) (some (t + 11)) → Ev X 1 34 [some (.ref t), some (.int (nI k))] [] (tbk w t k) (some (t + 3 + k)) (2 + k) (16 + 9 * k) Q := by
  intro d
  induction d with
  | zero =>
    intro k hk hQ
    have e : k = 8 := by omega
    subst e
    refine X2_init_34.mpr (X2_init_35.mpr (X2_init_37.mpr ?_))
    rw [if_neg (show ¬ nI 8 < 8 by decide)]
    rw [X2_init_66, tbk_8]
    exact hQ
  | succ d ih =>
    intro k hk hQ
    have h8 : k < 8 := by omega
    refine X2_init_34.mpr (X2_init_35.mpr (X2_init_37.mpr ?_))
    rw [if_pos (show nI k < 8 from nI_lt h8 (by decide))]
    refine X2_init_40.mpr (X2_init_41.mpr ⟨_, gf_ok tbk_t rfl, X2_init_44.mpr ?_⟩)
    refine (X2_init_45 (by omega) (by omega)).mpr (X2_init_48.mpr ((X2_init_49 (by omega) (by omega)).mpr (seat_new.mpr ?_)))
    rw [Kr_n]
    have u1 : wset (tbk w t k) (t + 3 + k) (.inr (1, dflt 1)) (t + 1) = some (.inl (4, 8, fun j => if j < k then .ref (t + 3 + j) else anw 1 (t + 1) 8 j)) := (wset_o (by omega)).trans tbk_1
    have u2 : wset (tbk w t k) (t + 3 + k) (.inr (1, dflt 1)) (t + 3 + k) = some (.inr (1, dflt 1)) := wset_s
    refine X2_init_52.mpr ⟨wset (wset (tbk w t k) (t + 3 + k) (.inr (1, dflt 1))) (t + 1) (.inl (4, 8, updV (fun j => if j < k then .ref (t + 3 + j) else anw 1 (t + 1) 8 j) k (.ref (t + 3 + k)))), ?_, ?_⟩
    · unfold saq
      rw [hasc_ok u2, sa_ok u1 h8 (by decide)]
    have u3 : wset (wset (tbk w t k) (t + 3 + k) (.inr (1, dflt 1))) (t + 1) (.inl (4, 8, updV (fun j => if j < k then .ref (t + 3 + j) else anw 1 (t + 1) 8 j) k (.ref (t + 3 + k)))) t = some (.inr (2, tfs t s00.1)) := (wset_o (by omega)).trans ((wset_o (by omega)).trans tbk_t)
    have u4 : wset (wset (tbk w t k) (t + 3 + k) (.inr (1, dflt 1))) (t + 1) (.inl (4, 8, updV (fun j => if j < k then .ref (t + 3 + j) else anw 1 (t + 1) 8 j) k (.ref (t + 3 + k)))) (t + 2) = some (.inl (0, 8, fun j => .int (if j < k then -1 else 0))) := (wset_o (by omega)).trans ((wset_o (by omega)).trans tbk_2)
    refine X2_init_53.mpr (X2_init_54.mpr ⟨_, gf_ok u3 rfl, X2_init_57.mpr (X2_init_58.mpr (X2_init_59.mpr ⟨_, sa_ok u4 h8 (by decide), X2_init_60.mpr (X2_init_63.mpr ?_)⟩))⟩)
    rw [← tbk_step h8, nI_1, show 16 + 9 * k + 9 = 16 + 9 * (k + 1) by omega]
    exact ih (k + 1) (by omega) hQ
theorem tb_new (hw : w t = some (.inr (2, dflt 2))) (hQ : Q (.inl none) (bk w t s00) (some (t + 11))) : Ev X 1 0 [some (.ref t), none] [] w (some (t + 1)) 0 0 Q := by
  refine X2_init_0.mpr (X2_init_1.mpr (X2_init_4.mpr (X2_init_5.mpr ((X2_init_7 (m := 8) (by decide) (by decide) (by decide)).mpr ?_))))
  have e1 : wset w (t + 1) (.inl (4, 8, anw 1 (t + 1) 8)) t = some (.inr (2, dflt 2)) := (wset_o (by omega)).trans hw
  refine X2_init_10.mpr ⟨_, pf_ok e1 (by decide) rfl, X2_init_13.mpr (X2_init_14.mpr ((X2_init_16 (q := t + 2) (m := 8) (by decide) (by decide) (by decide)).mpr ?_))⟩
  refine X2_init_18.mpr ⟨_, pf_ok ((wset_o (by omega)).trans wset_s) (by rw [List.length_set]; decide) rfl, X2_init_21.mpr (X2_init_22.mpr (X2_init_23.mpr ⟨_, pf_ok wset_s (by rw [List.length_set, List.length_set]; decide) rfl, X2_init_26.mpr (X2_init_27.mpr (X2_init_29.mpr ⟨_, pf_ok wset_s (by rw [List.length_set, List.length_set, List.length_set]; decide) rfl, X2_init_32.mpr (X2_init_33.mpr ?_)⟩))⟩))⟩
  refine ev_w (w2 := tbk w t 0) (tbk_0 _ _ rfl rfl _ (fun a h1 h2 h3 => ?_) ?_ ?_ ?_) (tb_loop 8 0 rfl hQ)
  · rw [wset_o h1, wset_o h1, wset_o h1, wset_o h3, wset_o h1, wset_o h2]
  · have n1 : t + 1 ≠ t := by omega
    rw [wset_o n1, wset_o n1, wset_o n1, wset_o (show t + 1 ≠ t + 2 by omega), wset_o n1, wset_s]
  · have n1 : t + 2 ≠ t := by omega
    rw [wset_o n1, wset_o n1, wset_o n1, wset_s]
  · rw [wset_s]
    rfl
theorem tx_new (hw : w t = some (.inr (3, dflt 3))) (hQ : Q (.inl none) (txt w t (fun _ => 0) (fun _ => 0) (fun _ => 0)) (some (t + 3))) : Ev X 2 0 [some (.ref t)] [] w (some (t + 1)) 0 0 Q := by
  refine X3_init_0.mpr (X3_init_1.mpr (X3_init_4.mpr (X3_init_5.mpr ((X3_init_7 (m := 60) (by decide) (by decide) (by decide)).mpr ?_))))
  have e1 : wset w (t + 1) (.inl (1, 60, fun _ => .int 0)) t = some (.inr (3, dflt 3)) := (wset_o (by omega)).trans hw
  refine X3_init_9.mpr ⟨_, pf_ok e1 (by decide) rfl, X3_init_12.mpr (X3_init_13.mpr ((X3_init_14 (q := t + 2) (m := 3) (by decide) (by decide) (by decide)).mpr ?_))⟩
  refine X3_init_16.mpr ⟨_, pf_ok ((wset_o (by omega)).trans wset_s) (by rw [List.length_set]; decide) rfl, X3_init_19.mpr ?_⟩
  refine q_w ?_ hQ
  funext a
  unfold txt
  by_cases a1 : a = t
  · rw [if_pos a1, a1, wset_s]
    rfl
  by_cases a2 : a = t + 1
  · rw [if_neg a1, if_pos a2, a2, wset_o (show t + 1 ≠ t by omega), wset_o (show t + 1 ≠ t + 2 by omega), wset_o (show t + 1 ≠ t by omega), wset_s]
  by_cases a3 : a = t + 2
  · rw [if_neg a1, if_neg a2, if_pos a3, a3, wset_o (show t + 2 ≠ t by omega), wset_s]
  rw [if_neg a1, if_neg a2, if_neg a3, wset_o a1, wset_o a3, wset_o a1, wset_o a2]
/-- the reference half made: k of its arrays and itself -/
def mxk (w : Wld) (m k : Nat) (fs : List Value) : Wld := fun a => if a = m then some (.inr (5, fs)) else if m < a ∧ a < m + k then MW w m V00 (fun _ => 0) (fun _ _ => 0) a else w a
theorem mxk_m : mxk w t k fs t = some (.inr (5, fs)) := if_pos rfl
theorem mxk_pf {j : Nat} (hk : j < fs.length) (hv : okv (fty 5 j) v = true) : pf (mxk w t k fs) t 5 j v = some (mxk w t k (fs.set j v)) := by
  rw [pf_ok mxk_m hk hv]
  congr 1
  refine wset_same mxk_m (fun b hb => ?_)
  unfold mxk
  rw [if_neg hb, if_neg hb]
theorem mxk_a {e : Cel} (h1 : 1 ≤ k) (h2 : k < 9) (he : e = .inl ((mln k).1, (mln k).2, fun _ => .int 0)) : wset (mxk w t k fs) (t + k) e = mxk w t (k + 1) fs := by
  subst he
  refine wset_same ?_ (fun b hb => ?_)
  · unfold mxk
    rw [if_neg (by omega), if_pos (by omega)]
    by_cases c : k = 1
    · subst c
      exact MW_1
    · exact MW_a (by omega) h2
  · unfold mxk
    by_cases c : b = t
    · rw [if_pos c, if_pos c]
    rw [if_neg c, if_neg c]
    by_cases d : t < b ∧ b < t + k
    · rw [if_pos (by omega), if_pos d]
    · rw [if_neg (by omega), if_neg d]
theorem mo_new (hw : w t = some (.inr (5, dflt 5))) (hQ : Q (.inl none) (MW w t V00 N00 (fun _ _ => 0)) (some (t + 9))) : Ev X 5 0 [some (.ref t)] [] w (some (t + 1)) 0 0 Q := by
  refine X6_init_0.mpr (X6_init_1.mpr (X6_init_4.mpr (X6_init_5.mpr ((X6_init_7 (m := 103) (by decide) (by decide) (by decide)).mpr ?_))))
  refine ev_w (w2 := mxk w t 2 (dflt 5)) (((mxk_a (k := 1) (by decide) (by decide) rfl).symm).trans (congrArg (fun W => wset W (t + 1) _) ?_)) ?_
  · funext a
    unfold mxk
    by_cases c : a = t
    · rw [if_pos c, c, hw]
    · rw [if_neg c, if_neg (by omega)]
  refine X6_init_9.mpr ⟨_, mxk_pf (by decide) rfl, X6_init_12.mpr (X6_init_13.mpr ((X6_init_15 (q := t + 2) (m := 103) (by decide) (by decide) (by decide)).mpr ?_))⟩
  refine ev_w (mxk_a (k := 2) (by decide) (by decide) rfl).symm ?_
  refine X6_init_17.mpr ⟨_, mxk_pf (by simp only [List.length_set]; decide) rfl, X6_init_20.mpr (X6_init_21.mpr ((X6_init_23 (q := t + 3) (m := 103) (by decide) (by decide) (by decide)).mpr ?_))⟩
  refine ev_w (mxk_a (k := 3) (by decide) (by decide) rfl).symm ?_
  refine X6_init_25.mpr ⟨_, mxk_pf (by simp only [List.length_set]; decide) rfl, X6_init_28.mpr (X6_init_29.mpr ((X6_init_32 (q := t + 4) (m := 824) (by decide) (by decide) (by decide)).mpr ?_))⟩
  refine ev_w (mxk_a (k := 4) (by decide) (by decide) rfl).symm ?_
  refine X6_init_34.mpr ⟨_, mxk_pf (by simp only [List.length_set]; decide) rfl, X6_init_37.mpr (X6_init_38.mpr ((X6_init_40 (q := t + 5) (m := 103) (by decide) (by decide) (by decide)).mpr ?_))⟩
  refine ev_w (mxk_a (k := 5) (by decide) (by decide) rfl).symm ?_
  refine X6_init_42.mpr ⟨_, mxk_pf (by simp only [List.length_set]; decide) rfl, X6_init_45.mpr (X6_init_46.mpr ((X6_init_48 (q := t + 6) (m := 60) (by decide) (by decide) (by decide)).mpr ?_))⟩
  refine ev_w (mxk_a (k := 6) (by decide) (by decide) rfl).symm ?_
  refine X6_init_50.mpr ⟨_, mxk_pf (by simp only [List.length_set]; decide) rfl, X6_init_53.mpr (X6_init_54.mpr ((X6_init_56 (q := t + 7) (m := 60) (by decide) (by decide) (by decide)).mpr ?_))⟩
  refine ev_w (mxk_a (k := 7) (by decide) (by decide) rfl).symm ?_
  refine X6_init_58.mpr ⟨_, mxk_pf (by simp only [List.length_set]; decide) rfl, X6_init_61.mpr (X6_init_62.mpr ((X6_init_63 (q := t + 8) (m := 3) (by decide) (by decide) (by decide)).mpr ?_))⟩
  refine ev_w (mxk_a (k := 8) (by decide) (by decide) rfl).symm ?_
  refine X6_init_65.mpr ⟨_, mxk_pf (by simp only [List.length_set]; decide) rfl, X6_init_68.mpr (X6_init_69.mpr (X6_init_70.mpr ⟨_, mxk_pf (by simp only [List.length_set]; decide) rfl, ?_⟩))⟩
  refine ev_w (w2 := MW w t V00 (fun _ => 0) (fun _ _ => 0)) ?_ ?_
  · funext a
    unfold mxk
    by_cases c : a = t
    · rw [if_pos c, c, MW_m]
      rfl
    rw [if_neg c]
    by_cases d : t < a ∧ a < t + 9
    · rw [if_pos d]
    · rw [if_neg d, MW_out (by omega)]
  refine X6_init_73.mpr (X6_init_74.mpr ⟨_, gm0, X6_init_77.mpr (X6_init_78.mpr (X6_init_80.mpr ⟨_, sn (k := 2) (by decide), X6_init_81.mpr ?_⟩))⟩)
  exact hQ
end CTR2
