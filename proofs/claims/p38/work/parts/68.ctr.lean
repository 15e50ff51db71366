/-! ===== constructors: a table, a text, a SoupTable ===== -/
def s00 : Tb := (fun j => if j = 4 then 20 else 0, fun j => if j < 8 then -1 else 0, fun _ _ => 0)
def Z00 : Nat → Int32 := fun j => if j = 8 then -1 else 0
theorem krn {X : Cxt} {M pc c sl : Nat} {ls : Lcs} {st : Stk} {Q : (Option Value ⊕ String) → Wld → Option Nat → Prop} {w : Wld} {n : Option Nat} : Kr X M pc ls st c sl Q (.inl none) w n = Ev X M pc ls st w n c sl Q := rfl
theorem SW_out2 {w : Wld} {x a : Nat} {T : Nat → Tb} {pa : Nat → Nat} {be : Nat} {Z P C D R Lt : Nat → Int32} (h : a < x ∨ x + 139 ≤ a) : SW w x T pa be Z P C D R Lt a = w a := by
  unfold SW
  rw [if_neg (by omega), if_neg (by omega), if_neg (by omega), if_neg (by omega), if_neg (by omega), if_neg (by omega)]
section CTR
variable {X : Cxt} {w : Wld} {n : Option Nat} {Q : (Option Value ⊕ String) → Wld → Option Nat → Prop} {a : Nat}
theorem seat_new : Ev X 0 0 [some (.ref a)] [] w n 0 0 Q ↔ Q (.inl none) w n := by rw [X1_init_0, X1_init_1, X1_init_4]
theorem refusal_new : Ev X 3 0 [some (.ref a)] [] w n 0 0 Q ↔ Q (.inl none) w n := by rw [X0_init_0, X0_init_1, X0_init_4]
end CTR
/-! ===== constructors: a table, a text, the reference ===== -/
section CTR2
variable {X : Cxt} {w : Wld} {Q : (Option Value ⊕ String) → Wld → Option Nat → Prop} {t a b ci k : Nat} {fs : List Value} {v : Value}
theorem ev_w {M pc c sl : Nat} {ls : Lcs} {st : Stk} {n : Option Nat} {w2 : Wld} (e : w2 = w) (h : Ev X M pc ls st w2 n c sl Q) : Ev X M pc ls st w n c sl Q := e ▸ h
theorem q_w {o : Option Value ⊕ String} {n : Option Nat} {w2 : Wld} (e : w2 = w) (h : Q o w2 n) : Q o w n := e ▸ h
theorem wset_s {e : Cel} : wset w a e a = some e := if_pos rfl
theorem wset_o {e : Cel} (h : b ≠ a) : wset w a e b = w b := if_neg h
theorem pf_ok (h : w a = some (.inr (ci, fs))) (hk : k < fs.length) (hv : okv (fty ci k) v = true) : pf w a ci k v = some (wset w a (.inr (ci, fs.set k v))) := by
  unfold pf
  rw [h]
  dsimp only
  rw [if_pos ⟨rfl, hk, hv⟩]
theorem gf_ok {u : Value} (h : w a = some (.inr (ci, fs))) (hu : fs[k]? = some u) : gf w a ci k = some u := by
  unfold gf
  rw [h]
  dsimp only
  rw [if_pos rfl, hu]
theorem sa_ok {ty len : Nat} {f : Nat → Value} (h : w a = some (.inl (ty, len, f))) (hk : k < len) (hl : len < 2 ^ 31) : sa w a ty (nI k) v = some (wset w a (.inl (ty, len, updV f k v))) := by
  unfold sa
  rw [h]
  dsimp only
  rw [if_pos ⟨rfl, inr_nI hk hl⟩, nI_clamp (by omega)]
theorem hasc_ok (h : w a = some (.inr (ci, fs))) : hasc w a ci = true := by
  unfold hasc
  rw [h]
  exact decide_eq_true rfl
/-- a table half made -/
def tbk (w : Wld) (t k : Nat) : Wld := fun a => if a = t then some (.inr (2, tfs t s00.1)) else if a = t + 1 then some (.inl (4, 8, fun j => if j < k then .ref (t + 3 + j) else anw 1 (t + 1) 8 j)) else if a = t + 2 then some (.inl (0, 8, fun j => .int (if j < k then -1 else 0))) else if t + 3 ≤ a ∧ a < t + 3 + k then some (.inr (1, sfs (fun _ => 0))) else w a
theorem tbk_t : tbk w t k t = some (.inr (2, tfs t s00.1)) := if_pos rfl
theorem tbk_1 : tbk w t k (t + 1) = some (.inl (4, 8, fun j => if j < k then .ref (t + 3 + j) else anw 1 (t + 1) 8 j)) := by unfold tbk; rw [if_neg (by omega), if_pos rfl]
theorem tbk_2 : tbk w t k (t + 2) = some (.inl (0, 8, fun j => .int (if j < k then -1 else 0))) := by unfold tbk; rw [if_neg (by omega), if_neg (by omega), if_pos rfl]
theorem tbk_0 (e1 : Cel) (e2 : Cel) (h1 : e1 = .inl (4, 8, anw 1 (t + 1) 8)) (h2 : e2 = .inl (0, 8, fun _ => .int 0)) (u : Wld) (hu : ∀ a, a ≠ t → a ≠ t + 1 → a ≠ t + 2 → u a = w a) (h3 : u (t + 1) = some e1) (h4 : u (t + 2) = some e2) (h5 : u t = some (.inr (2, tfs t s00.1))) : tbk w t 0 = u := by
  subst h1; subst h2
  funext a
  unfold tbk
  by_cases a1 : a = t
  · rw [if_pos a1, a1, h5]
  by_cases a2 : a = t + 1
  · rw [if_neg a1, if_pos a2, a2, h3]
    rfl
  by_cases a3 : a = t + 2
  · rw [if_neg a1, if_neg a2, if_pos a3, a3, h4]
    rfl
  rw [if_neg a1, if_neg a2, if_neg a3, if_neg (by omega), hu a a1 a2 a3]
theorem tbk_8 : tbk w t 8 = bk w t s00 := by
  funext a
  show tbk w t 8 a = blk w t s00.1 s00.2.1 s00.2.2 a
  unfold tbk blk
  by_cases a1 : a = t
  · rw [if_pos a1, if_pos a1]
  rw [if_neg a1, if_neg a1]
  by_cases a2 : a = t + 1
  · rw [if_pos a2, if_pos a2]
    congr 4
    funext j
    by_cases c : j < 8
    · rw [if_pos c]
    · rw [if_neg c]
      unfold anw
      rw [if_neg c, if_pos rfl]
  rw [if_neg a2, if_neg a2]
  by_cases a3 : a = t + 2
  · rw [if_pos a3, if_pos a3]
    rfl
  rw [if_neg a3, if_neg a3]
  by_cases a4 : t + 3 ≤ a ∧ a < t + 11
  · rw [if_pos (by omega), if_pos a4]
    rfl
  · rw [if_neg (by omega), if_neg a4]
theorem tbk_step (hk : k < 8) : tbk w t (k + 1) = wset (wset (wset (tbk w t k) (t + 3 + k) (.inr (1, dflt 1))) (t + 1) (.inl (4, 8, updV (fun j => if j < k then .ref (t + 3 + j) else anw 1 (t + 1) 8 j) k (.ref (t + 3 + k))))) (t + 2) (.inl (0, 8, updV (fun j => .int (if j < k then -1 else 0)) k (.int (-1)))) := by
  funext a
  unfold wset tbk
  by_cases a3 : a = t + 2
  · rw [if_neg (by omega), if_neg (by omega), if_pos a3, if_pos a3]
    congr 4
    funext j
    unfold updV
    by_cases c : j = k
    · rw [if_pos c, if_pos (by omega)]
    · rw [if_neg c]
      by_cases d : j < k
      · dsimp only
        rw [if_pos (by omega), if_pos d]
      · dsimp only
        rw [if_neg (by omega), if_neg d]
  by_cases a2 : a = t + 1
  · rw [if_neg (by omega), if_pos a2, if_neg a3, if_pos a2]
    congr 4
    funext j
    unfold updV
    by_cases c : j = k
    · rw [if_pos c, if_pos (by omega), c]
    · rw [if_neg c]
      by_cases d : j < k
      · dsimp only
        rw [if_pos (by omega), if_pos d]
      · dsimp only
        rw [if_neg (by omega), if_neg d]
  by_cases a1 : a = t
  · rw [if_pos a1, if_neg a3, if_neg a2, if_neg (by omega), if_pos a1]
  by_cases a4 : a = t + 3 + k
  · rw [if_neg a1, if_neg a2, if_neg a3, if_pos (by omega), if_neg a3, if_neg a2, if_pos a4]
    rfl
  rw [if_neg a1, if_neg a2, if_neg a3, if_neg a3, if_neg a2, if_neg a4, if_neg a1, if_neg a2, if_neg a3]
  by_cases a5 : t + 3 ≤ a ∧ a < t + 3 + k
  · rw [if_pos (by omega), if_pos a5]
  · rw [if_neg (by omega), if_neg a5]
theorem tb_loop : ∀ (d k : Nat), k + d = 8 → Q (.inl none) (bk w t s00) (some (t + 11)) → Ev X 1 34 [some (.ref t), some (.int (nI k))] [] (tbk w t k) (some (t + 3 + k)) 0 0 Q := by
  intro d
  induction d with
  | zero =>
    intro k hk hQ
    have e : k = 8 := by omega
    subst e
    refine X2_init_34.mpr (X2_init_35.mpr (X2_init_37.mpr ?_))
    rw [if_neg (show ¬ nI 8 < 8 by decide)]
    rw [X2_init_66, tbk_8]
    exact hQ
  | succ d ih =>
    intro k hk hQ
    have h8 : k < 8 := by omega
    refine X2_init_34.mpr (X2_init_35.mpr (X2_init_37.mpr ?_))
    rw [if_pos (show nI k < 8 from nI_lt h8 (by decide))]
    refine X2_init_40.mpr (X2_init_41.mpr ⟨_, gf_ok tbk_t rfl, X2_init_44.mpr ?_⟩)
    refine X2_init_45.mpr (X2_init_48.mpr (X2_init_49.mpr (seat_new.mpr ?_)))
    rw [krn]
    have u1 : wset (tbk w t k) (t + 3 + k) (.inr (1, dflt 1)) (t + 1) = some (.inl (4, 8, fun j => if j < k then .ref (t + 3 + j) else anw 1 (t + 1) 8 j)) := (wset_o (by omega)).trans tbk_1
    have u2 : wset (tbk w t k) (t + 3 + k) (.inr (1, dflt 1)) (t + 3 + k) = some (.inr (1, dflt 1)) := wset_s
    refine X2_init_52.mpr ⟨wset (wset (tbk w t k) (t + 3 + k) (.inr (1, dflt 1))) (t + 1) (.inl (4, 8, updV (fun j => if j < k then .ref (t + 3 + j) else anw 1 (t + 1) 8 j) k (.ref (t + 3 + k)))), ?_, ?_⟩
    · unfold saq
      rw [hasc_ok u2, sa_ok u1 h8 (by decide)]
    have u3 : wset (wset (tbk w t k) (t + 3 + k) (.inr (1, dflt 1))) (t + 1) (.inl (4, 8, updV (fun j => if j < k then .ref (t + 3 + j) else anw 1 (t + 1) 8 j) k (.ref (t + 3 + k)))) t = some (.inr (2, tfs t s00.1)) := (wset_o (by omega)).trans ((wset_o (by omega)).trans tbk_t)
    have u4 : wset (wset (tbk w t k) (t + 3 + k) (.inr (1, dflt 1))) (t + 1) (.inl (4, 8, updV (fun j => if j < k then .ref (t + 3 + j) else anw 1 (t + 1) 8 j) k (.ref (t + 3 + k)))) (t + 2) = some (.inl (0, 8, fun j => .int (if j < k then -1 else 0))) := (wset_o (by omega)).trans ((wset_o (by omega)).trans tbk_2)
    refine X2_init_53.mpr (X2_init_54.mpr ⟨_, gf_ok u3 rfl, X2_init_57.mpr (X2_init_58.mpr (X2_init_59.mpr ⟨_, sa_ok u4 h8 (by decide), X2_init_60.mpr (X2_init_63.mpr ?_)⟩))⟩)
    rw [← tbk_step h8, nI_1]
    exact ih (k + 1) (by omega) hQ
theorem tb_new (hw : w t = some (.inr (2, dflt 2))) (hQ : Q (.inl none) (bk w t s00) (some (t + 11))) : Ev X 1 0 [some (.ref t), none] [] w (some (t + 1)) 0 0 Q := by
  refine X2_init_0.mpr (X2_init_1.mpr (X2_init_4.mpr (X2_init_5.mpr ((X2_init_7 (m := 8) (by decide)).mpr ?_))))
  have e1 : wset w (t + 1) (.inl (4, 8, anw 1 (t + 1) 8)) t = some (.inr (2, dflt 2)) := (wset_o (by omega)).trans hw
  refine X2_init_10.mpr ⟨_, pf_ok e1 (by decide) rfl, X2_init_13.mpr (X2_init_14.mpr ((X2_init_16 (q := t + 2) (m := 8) (by decide)).mpr ?_))⟩
  refine X2_init_18.mpr ⟨_, pf_ok ((wset_o (by omega)).trans wset_s) (by rw [List.length_set]; decide) rfl, X2_init_21.mpr (X2_init_22.mpr (X2_init_23.mpr ⟨_, pf_ok wset_s (by rw [List.length_set, List.length_set]; decide) rfl, X2_init_26.mpr (X2_init_27.mpr (X2_init_29.mpr ⟨_, pf_ok wset_s (by rw [List.length_set, List.length_set, List.length_set]; decide) rfl, X2_init_32.mpr (X2_init_33.mpr ?_)⟩))⟩))⟩
  refine ev_w (w2 := tbk w t 0) (tbk_0 _ _ rfl rfl _ (fun a h1 h2 h3 => ?_) ?_ ?_ ?_) (tb_loop 8 0 rfl hQ)
  · rw [wset_o h1, wset_o h1, wset_o h1, wset_o h3, wset_o h1, wset_o h2]
  · have n1 : t + 1 ≠ t := by omega
    rw [wset_o n1, wset_o n1, wset_o n1, wset_o (show t + 1 ≠ t + 2 by omega), wset_o n1, wset_s]
  · have n1 : t + 2 ≠ t := by omega
    rw [wset_o n1, wset_o n1, wset_o n1, wset_s]
  · rw [wset_s]
    rfl
theorem tx_new (hw : w t = some (.inr (3, dflt 3))) (hQ : Q (.inl none) (txt w t (fun _ => 0) (fun _ => 0) (fun _ => 0)) (some (t + 3))) : Ev X 2 0 [some (.ref t)] [] w (some (t + 1)) 0 0 Q := by
  refine X3_init_0.mpr (X3_init_1.mpr (X3_init_4.mpr (X3_init_5.mpr ((X3_init_7 (m := 60) (by decide)).mpr ?_))))
  have e1 : wset w (t + 1) (.inl (1, 60, fun _ => .int 0)) t = some (.inr (3, dflt 3)) := (wset_o (by omega)).trans hw
  refine X3_init_9.mpr ⟨_, pf_ok e1 (by decide) rfl, X3_init_12.mpr (X3_init_13.mpr ((X3_init_14 (q := t + 2) (m := 3) (by decide)).mpr ?_))⟩
  refine X3_init_16.mpr ⟨_, pf_ok ((wset_o (by omega)).trans wset_s) (by rw [List.length_set]; decide) rfl, X3_init_19.mpr ?_⟩
  refine q_w ?_ hQ
  funext a
  unfold txt
  by_cases a1 : a = t
  · rw [if_pos a1, a1, wset_s]
    rfl
  by_cases a2 : a = t + 1
  · rw [if_neg a1, if_pos a2, a2, wset_o (show t + 1 ≠ t by omega), wset_o (show t + 1 ≠ t + 2 by omega), wset_o (show t + 1 ≠ t by omega), wset_s]
  by_cases a3 : a = t + 2
  · rw [if_neg a1, if_neg a2, if_pos a3, a3, wset_o (show t + 2 ≠ t by omega), wset_s]
  rw [if_neg a1, if_neg a2, if_neg a3, wset_o a1, wset_o a3, wset_o a1, wset_o a2]
end CTR2
/-! ===== constructors: a SoupTable; the law's beginning ===== -/
section CTR3
variable {X : Cxt} {w : Wld} {Q : (Option Value ⊕ String) → Wld → Option Nat → Prop} {x m k i : Nat} {fs : List Value} {h : Nat → Value} {v : Value} {e : Cel}
/-- a SoupTable half made: m of its cells and itself; the array of past holds h -/
def sx (w : Wld) (x m : Nat) (fs : List Value) (h : Nat → Value) : Wld := fun a => if a = x then some (.inr (4, fs)) else if x < a ∧ a < x + m then (if a = x + 34 then some (.inl (5, 8, h)) else SW w x (fun _ => s00) (fun k => k + 4) 3 Z00 (fun _ => 0) (fun _ => 0) (fun _ => 0) (fun _ => 0) (fun _ => 0) a) else w a
theorem sx_x : sx w x m fs h x = some (.inr (4, fs)) := if_pos rfl
theorem sx_o {a : Nat} (h1 : a < x ∨ x + m ≤ a) (h2 : a ≠ x) : sx w x m fs h a = w a := by
  unfold sx
  rw [if_neg h2, if_neg (by omega)]
theorem sx_34 (h1 : 34 < m) : sx w x m fs h (x + 34) = some (.inl (5, 8, h)) := by
  unfold sx
  rw [if_neg (by omega), if_pos (by omega), if_pos rfl]
theorem sx_pf {j : Nat} (hk : j < fs.length) (hv : okv (fty 4 j) v = true) : pf (sx w x m fs h) x 4 j v = some (sx w x m (fs.set j v) h) := by
  rw [pf_ok sx_x hk hv]
  congr 1
  refine wset_same sx_x (fun b hb => ?_)
  unfold sx
  rw [if_neg hb, if_neg hb]
/-- one more cell -/
theorem sx_1 (hm : 1 ≤ m) (h34 : m ≠ 34) (he : SW w x (fun _ => s00) (fun k => k + 4) 3 Z00 (fun _ => 0) (fun _ => 0) (fun _ => 0) (fun _ => 0) (fun _ => 0) (x + m) = some e) : wset (sx w x m fs h) (x + m) e = sx w x (m + 1) fs h := by
  refine wset_same ?_ (fun b hb => ?_)
  · unfold sx
    rw [if_neg (by omega), if_pos (by omega), if_neg (by omega), he]
  · unfold sx
    by_cases c : b = x
    · rw [if_pos c, if_pos c]
    rw [if_neg c, if_neg c]
    by_cases d : x < b ∧ b < x + m
    · rw [if_pos (by omega), if_pos d]
    · rw [if_neg (by omega), if_neg d]
theorem sx_a : wset (sx w x 34 fs h) (x + 34) (.inl (5, 8, anw 2 (x + 34) 8)) = sx w x 35 fs (anw 2 (x + 34) 8) := by
  refine wset_same ?_ (fun b hb => ?_)
  · unfold sx
    rw [if_neg (by omega), if_pos (by omega), if_pos rfl]
  · unfold sx
    by_cases c : b = x
    · rw [if_pos c, if_pos c]
    rw [if_neg c, if_neg c]
    by_cases d : x < b ∧ b < x + 34
    · rw [if_pos (by omega), if_pos d, if_neg hb, if_neg hb]
    · rw [if_neg (by omega), if_neg d]
/-- one more table -/
theorem sx_t {u : Wld} (hi : i < 12) (hm : tof i = m) (hu : ∀ a, a < x + m ∨ x + m + 11 ≤ a → u a = sx w x m fs h a) : bk u (x + m) s00 = sx w x (m + 11) fs h := by
  subst hm
  funext a
  by_cases c : x + tof i ≤ a ∧ a < x + tof i + 11
  · obtain ⟨e1, e2, e3, e4, e5, e6, e7, e8⟩ := tno_of (i := i) (d := a - x) hi (by omega) (by omega)
    unfold sx
    rw [if_neg (by omega), if_pos (by omega), if_neg (by omega), SW_tab hi c.1 c.2]
    exact bk_in c.1 c.2
  · have e0 : 1 ≤ tof i := by
      unfold tof
      split
      · omega
      · split <;> omega
    have e1 : bk u (x + tof i) s00 a = u a := blk_out (by omega)
    rw [e1, hu a (by omega)]
    unfold sx
    by_cases c0 : a = x
    · rw [if_pos c0, if_pos c0]
    rw [if_neg c0, if_neg c0]
    by_cases d : x < a ∧ a < x + tof i
    · rw [if_pos d, if_pos (show x < a ∧ a < x + (tof i + 11) by omega)]
    · rw [if_neg d, if_neg (show ¬ (x < a ∧ a < x + (tof i + 11)) by omega)]
/-- the text -/
theorem sx_x46 {u : Wld} (hu : ∀ a, a < x + 46 ∨ x + 49 ≤ a → u a = sx w x 46 fs h a) : txt u (x + 46) (fun _ => 0) (fun _ => 0) (fun _ => 0) = sx w x 49 fs h := by
  funext a
  by_cases c : x + 46 ≤ a ∧ a < x + 49
  · unfold sx
    rw [if_neg (by omega), if_pos (by omega), if_neg (by omega), SW_46 c]
    exact txt_in c.1 c.2
  · rw [txt_out (by omega), hu a (by omega)]
    unfold sx
    by_cases c0 : a = x
    · rw [if_pos c0, if_pos c0]
    rw [if_neg c0, if_neg c0]
    by_cases d : x < a ∧ a < x + 46
    · rw [if_pos d, if_pos (show x < a ∧ a < x + 49 by omega)]
    · rw [if_neg d, if_neg (show ¬ (x < a ∧ a < x + 49) by omega)]
/-- the array of past written -/
theorem sx_s {b : Nat} (h1 : 34 < m) (hk : k < 8) (hb : sx w x m fs h b = some (.inr (2, tfs b s00.1))) : saq (sx w x m fs h) (x + 34) (nI k) b = some (sx w x m fs (updV h k (.ref b))) := by
  have e1 : hasc (sx w x m fs h) b 1 = false := by
    unfold hasc
    rw [hb]
    rfl
  unfold saq
  rw [e1, hasc_ok hb, sa_ok (sx_34 h1) hk (by decide)]
  dsimp only
  congr 1
  refine wset_same (sx_34 h1) (fun b hb => ?_)
  unfold sx
  by_cases c : b = x
  · rw [if_pos c, if_pos c]
  rw [if_neg c, if_neg c, if_neg hb, if_neg hb]
theorem sx_end : sx w x 139 (sob x 3 Z00) (fun k => .ref (x + tof (k + 4))) = SW w x (fun _ => s00) (fun k => k + 4) 3 Z00 (fun _ => 0) (fun _ => 0) (fun _ => 0) (fun _ => 0) (fun _ => 0) := by
  funext a
  unfold sx
  by_cases c : a = x
  · rw [if_pos c, c, SW_x]
  rw [if_neg c]
  by_cases d : x < a ∧ a < x + 139
  · rw [if_pos d]
    by_cases f : a = x + 34
    · rw [if_pos f, f, SW_34]
    · rw [if_neg f]
  · rw [if_neg d, SW_out2 (by omega)]
def phk (x k : Nat) : Nat → Value := fun j => if j < k then .ref (x + (51 + 11 * j)) else anw 2 (x + 34) 8 j
theorem tof_4 {k : Nat} : tof (k + 4) = 51 + 11 * k := by
  unfold tof
  rw [if_neg (by omega), if_neg (by omega)]
  omega
theorem phk_s (hk : k < 8) : updV (phk x k) k (.ref (x + (51 + 11 * k))) = phk x (k + 1) := by
  funext j
  unfold updV phk
  by_cases c : j = k
  · rw [if_pos c, if_pos (by omega), c]
  · rw [if_neg c]
    by_cases d : j < k
    · rw [if_pos d, if_pos (by omega)]
    · rw [if_neg d, if_neg (by omega)]
theorem phk_8 : phk x 8 = fun k => .ref (x + tof (k + 4)) := by
  funext j
  rw [tof_4]
  unfold phk anw
  by_cases c : j < 8
  · rw [if_pos c]
  · rw [if_neg c, if_neg c]
    show Value.ref (x + 34 + 17 + 11 * j) = Value.ref (x + (51 + 11 * j))
    rw [show x + 34 + 17 + 11 * j = x + (51 + 11 * j) by omega]
theorem sx_tab (hi : i < 12) (hm : tof i + 11 = m) : sx w x m fs h (x + tof i) = some (.inr (2, tfs (x + tof i) s00.1)) := by
  obtain ⟨e1, e2, e3, e4, e5, e6, e7, e8⟩ := tno_of (i := i) (d := tof i) hi (by omega) (by omega)
  unfold sx
  rw [if_neg (by omega), if_pos (by omega), if_neg (by omega), SW_tab hi (by omega) (by omega)]
  exact blk_t
theorem sp_loop : ∀ (d k : Nat), k + d = 8 → Q (.inl none) (SW w x (fun _ => s00) (fun k => k + 4) 3 Z00 (fun _ => 0) (fun _ => 0) (fun _ => 0) (fun _ => 0) (fun _ => 0)) (some (x + 139)) → Ev X 4 94 [some (.ref x), some (.int (nI k))] [] (sx w x (51 + 11 * k) (sob x 3 Z00) (phk x k)) (some (x + (51 + 11 * k))) 0 0 Q := by
  intro d
  induction d with
  | zero =>
    intro k hk hQ
    have e : k = 8 := by omega
    subst e
    refine X5_init_94.mpr (X5_init_95.mpr (X5_init_97.mpr ?_))
    rw [if_neg (show ¬ nI 8 < 8 by decide), X5_init_119]
    refine q_w ?_ hQ
    rw [phk_8]
    exact sx_end.symm
  | succ d ih =>
    intro k hk hQ
    have h8 : k < 8 := by omega
    refine X5_init_94.mpr (X5_init_95.mpr (X5_init_97.mpr ?_))
    rw [if_pos (show nI k < 8 from nI_lt h8 (by decide))]
    refine X5_init_100.mpr (X5_init_101.mpr ⟨_, gf_ok sx_x rfl, X5_init_104.mpr ?_⟩)
    refine X5_init_105.mpr (X5_init_108.mpr (X5_init_109.mpr (tb_new wset_s ?_)))
    have go : bk (wset (sx w x (51 + 11 * k) (sob x 3 Z00) (phk x k)) (x + (51 + 11 * k)) (.inr (2, dflt 2))) (x + (51 + 11 * k)) s00 = sx w x (51 + 11 * (k + 1)) (sob x 3 Z00) (phk x k) := by
      have z := sx_t (w := w) (x := x) (m := 51 + 11 * k) (fs := sob x 3 Z00) (h := phk x k) (u := wset (sx w x (51 + 11 * k) (sob x 3 Z00) (phk x k)) (x + (51 + 11 * k)) (.inr (2, dflt 2))) (i := k + 4) (by omega) tof_4 (fun a ha => wset_o (by omega))
      rw [show 51 + 11 * k + 11 = 51 + 11 * (k + 1) by omega] at z
      exact z
    rw [krn, go]
    refine X5_init_112.mpr ⟨_, sx_s (by omega) h8 ?_, X5_init_113.mpr (X5_init_116.mpr ?_)⟩
    · have := sx_tab (w := w) (x := x) (m := 51 + 11 * (k + 1)) (fs := sob x 3 Z00) (h := phk x k) (i := k + 4) (by omega) (by rw [tof_4]; omega)
      rw [tof_4] at this
      exact this
    rw [phk_s h8, nI_1, show x + (51 + 11 * k) + 11 = x + (51 + 11 * (k + 1)) by omega]
    exact ih (k + 1) (by omega) hQ
theorem so_new (hw : w x = some (.inr (4, dflt 4))) (hQ : Q (.inl none) (SW w x (fun _ => s00) (fun k => k + 4) 3 Z00 (fun _ => 0) (fun _ => 0) (fun _ => 0) (fun _ => 0) (fun _ => 0)) (some (x + 139))) : Ev X 4 0 [some (.ref x), none] [] w (some (x + 1)) 0 0 Q := by
  have e0 : sx w x 1 (dflt 4) (anw 2 (x + 34) 8) = w := by
    funext a
    unfold sx
    by_cases c : a = x
    · rw [if_pos c, c, hw]
    · rw [if_neg c, if_neg (by omega)]
  refine ev_w e0 ?_
  have go : ∀ (i m m2 : Nat) (fs : List Value) (h : Nat → Value) (c : Cel), i < 12 → tof i = m → m + 11 = m2 → bk (wset (sx w x m fs h) (x + m) c) (x + m) s00 = sx w x m2 fs h := fun i m m2 fs h c hi hm h2 => by
    subst h2
    exact sx_t (u := wset (sx w x m fs h) (x + m) c) hi hm (fun a ha => wset_o (by omega))
  have g46 : ∀ (fs : List Value) (h : Nat → Value) (c : Cel), txt (wset (sx w x 46 fs h) (x + 46) c) (x + 46) (fun _ => 0) (fun _ => 0) (fun _ => 0) = sx w x 49 fs h := fun fs h c => sx_x46 (u := wset (sx w x 46 fs h) (x + 46) c) (fun a ha => wset_o (by omega))
  have g49 : ∀ (fs : List Value) (h : Nat → Value), wset (sx w x 49 fs h) (x + 49) (.inr (0, dflt 0)) = sx w x 50 fs h := fun fs h => sx_1 (m := 49) (by decide) (by decide) SW_49
  have g50 : ∀ (fs : List Value) (h : Nat → Value), wset (sx w x 50 fs h) (x + 50) (.inl (1, 40, fun _ => .int 0)) = sx w x 51 fs h := fun fs h => sx_1 (m := 50) (by decide) (by decide) SW_50
  refine X5_init_0.mpr (X5_init_1.mpr (X5_init_4.mpr (X5_init_5.mpr (X5_init_8.mpr (X5_init_9.mpr (tb_new wset_s ?_))))))
  rw [krn, go 0 1 12 _ _ _ (by decide) rfl rfl]
  refine X5_init_12.mpr ⟨_, sx_pf (by decide) rfl, ?_⟩
  refine X5_init_15.mpr ((X5_init_16 (q := x + 12)).mpr (X5_init_19.mpr (X5_init_20.mpr (tb_new wset_s ?_))))
  rw [krn, go 1 12 23 _ _ _ (by decide) rfl rfl]
  refine X5_init_23.mpr ⟨_, sx_pf (by simp only [List.length_set]; decide) rfl, ?_⟩
  refine X5_init_26.mpr ((X5_init_27 (q := x + 23)).mpr (X5_init_30.mpr (X5_init_31.mpr (tb_new wset_s ?_))))
  rw [krn, go 2 23 34 _ _ _ (by decide) rfl rfl]
  refine X5_init_34.mpr ⟨_, sx_pf (by simp only [List.length_set]; decide) rfl, ?_⟩
  refine X5_init_37.mpr (X5_init_38.mpr ((X5_init_40 (q := x + 34) (m := 8) (by decide)).mpr ?_))
  refine ev_w sx_a.symm ?_
  refine X5_init_43.mpr ⟨_, sx_pf (by simp only [List.length_set]; decide) rfl, ?_⟩
  refine X5_init_46.mpr ((X5_init_47 (q := x + 35)).mpr (X5_init_50.mpr (X5_init_51.mpr (tb_new wset_s ?_))))
  rw [krn, go 3 35 46 _ _ _ (by decide) rfl rfl]
  refine X5_init_54.mpr ⟨_, sx_pf (by simp only [List.length_set]; decide) rfl, ?_⟩
  refine X5_init_57.mpr ((X5_init_58 (q := x + 46)).mpr (X5_init_61.mpr (X5_init_62.mpr (tx_new wset_s ?_))))
  rw [krn, g46]
  refine X5_init_65.mpr ⟨_, sx_pf (by simp only [List.length_set]; decide) rfl, ?_⟩
  refine X5_init_68.mpr (X5_init_69.mpr (X5_init_70.mpr ⟨_, sx_pf (by simp only [List.length_set]; decide) rfl, ?_⟩))
  refine X5_init_73.mpr ((X5_init_74 (q := x + 49)).mpr (X5_init_77.mpr (X5_init_78.mpr (refusal_new.mpr ?_))))
  rw [krn, g49]
  refine X5_init_81.mpr ⟨_, sx_pf (by simp only [List.length_set]; decide) rfl, ?_⟩
  refine X5_init_84.mpr (X5_init_85.mpr ((X5_init_87 (q := x + 50) (m := 40) (by decide)).mpr ?_))
  rw [g50]
  refine X5_init_89.mpr ⟨_, sx_pf (by simp only [List.length_set]; decide) rfl, X5_init_92.mpr (X5_init_93.mpr ?_)⟩
  rw [show x + 50 + 1 = x + (51 + 11 * 0) by omega]
  refine ev_w ?_ (sp_loop 8 0 rfl hQ)
  have e1 : phk x 0 = anw 2 (x + 34) 8 := by
    funext j
    exact if_neg (Nat.not_lt_zero j)
  rw [e1]
  rfl
end CTR3
