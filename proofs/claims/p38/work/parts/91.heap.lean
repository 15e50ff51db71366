/-! ===== SOUNDNESS, the heap: worlds over a heap, one instruction each ===== -/
def eat (D : va_G) (dA : Nat → ClassId) (a : Nat) (e : Cel) (H : Heap) : Prop := match e with
  | .inl q => H[a]? = some (arrV (dA q.1) q.2.1 q.2.2)
  | .inr o => ∃ r : vw_C, KL[o.1]? = some r ∧ t_OB a (D.1 o.1) r.2.2 (D.2 o.1) H (vp_V o.2)
theorem eat.kept {D : va_G} {dA : Nat → ClassId} {a : Nat} {e : Cel} {H H1 : Heap} (h : eat D dA a e H) (hq : H1[a]? = H[a]?) : eat D dA a e H1 := by
  cases e with
  | inl q => exact hq.trans h
  | inr o =>
    obtain ⟨r, h1, h2⟩ := h
    exact ⟨r, h1, h2.kept hq⟩
theorem eat.lt {D : va_G} {dA : Nat → ClassId} {a : Nat} {e : Cel} {H : Heap} (h : eat D dA a e H) : a < H.size := by
  cases e with
  | inl q => exact (Array.getElem?_eq_some_iff.mp h).1
  | inr o =>
    obtain ⟨r, h1, cell, h2, -⟩ := h
    exact (Array.getElem?_eq_some_iff.mp h2).1
/-- a world over a heap: all of it lies from b0 on; n: the heap's size, where it is known -/
def WOK (b0 : Nat) (D : va_G) (dA : Nat → ClassId) (w : Wld) (n : Option Nat) (H : Heap) : Prop :=
  (∀ (a : Nat) (e : Cel), w a = some e → b0 ≤ a ∧ eat D dA a e H) ∧ b0 ≤ H.size ∧ ∀ k : Nat, n = some k → H.size = k
theorem WOK.set {b0 : Nat} {D : va_G} {dA : Nat → ClassId} {w : Wld} {n : Option Nat} {H H1 : Heap} (h : WOK b0 D dA w n H) {a : Nat} {e0 e : Cel} (hw : w a = some e0) (he : eat D dA a e H1) (z : H1.size = H.size) (oq : ∀ q : Nat, q ≠ a → H1[q]? = H[q]?) : WOK b0 D dA (wset w a e) n H1 := by
  refine ⟨fun b e2 hb => ?_, by rw [z]; exact h.2.1, fun k hk => by rw [z]; exact h.2.2 k hk⟩
  unfold wset at hb
  by_cases q : b = a
  · rw [if_pos q] at hb
    cases hb
    subst q
    exact ⟨(h.1 _ _ hw).1, he⟩
  · rw [if_neg q] at hb
    obtain ⟨x, y⟩ := h.1 b e2 hb
    exact ⟨x, y.kept (oq b q)⟩
theorem WOK.push {b0 : Nat} {D : va_G} {dA : Nat → ClassId} {w : Wld} {k : Nat} {H H1 : Heap} (h : WOK b0 D dA w (some k) H) {e : Cel} (he : eat D dA k e H1) (z : H1.size = k + 1) (o1 : ∀ q : Nat, q < k → H1[q]? = H[q]?) : WOK b0 D dA (wset w k e) (some (k + 1)) H1 := by
  have hk : H.size = k := h.2.2 k rfl
  have hb : b0 ≤ k := hk ▸ h.2.1
  refine ⟨fun b e2 hb2 => ?_, by omega, fun j hj => by cases hj; exact z⟩
  unfold wset at hb2
  by_cases q : b = k
  · rw [if_pos q] at hb2
    cases hb2
    subst q
    exact ⟨hb, he⟩
  · rw [if_neg q] at hb2
    obtain ⟨x, y⟩ := h.1 b e2 hb2
    exact ⟨x, y.kept (o1 b (hk ▸ y.lt))⟩
/-- one cell more, of which nothing is told -/
theorem WOK.grow {b0 : Nat} {D : va_G} {dA : Nat → ClassId} {w : Wld} {n : Option Nat} {H H1 : Heap} (h : WOK b0 D dA w n H) (z : H1.size = H.size + 1) (oq : ∀ q : Nat, q < H.size → H1[q]? = H[q]?) : WOK b0 D dA w (n.map (· + 1)) H1 :=
  ⟨fun a e ha => ⟨(h.1 a e ha).1, (h.1 a e ha).2.kept (oq a (h.1 a e ha).2.lt)⟩, by rw [z]; exact Nat.le_succ_of_le h.2.1, fun k hk => by
    obtain ⟨j, hj, rfl⟩ := Option.map_eq_some_iff.mp hk
    rw [z, h.2.2 j hj]⟩
theorem va_S.push {A : Nat → Prop} {H0 H H1 : Heap} {locs : List Loc} {k : Nat} (h : va_S A H0 H locs) (hk : H.size = k) (z : H1.size = k + 1) (o1 : ∀ q : Nat, q < k → H1[q]? = H[q]?) : va_S A H0 H1 locs :=
  ⟨Nat.le_trans h.1 (by omega), fun q h1 h2 => (o1 q (by have := h.1; omega)).trans (h.2.1 q h1 h2), h.2.2⟩
/-- the arrays' classes -/
def AKs (dA : Nat → ClassId) (U : State) : Prop := ∀ (t : Nat) (ty : FieldType), ATY[t]? = some ty → ArrOfT U (dA t) ty ∧ va_RA U (dA t) ty
theorem inr_ok {j : Int32} {n : Nat} (h : inr_ j n = true) : vp_in j n := of_decide_eq_true (p := ¬ (j < 0 ∨ n ≤ j.toNatClampNeg)) h
theorem ga_inv {w : Wld} {a t : Nat} {j : Int32} {v : Value} (h : ga w a t j = some v) : ∃ (n : Nat) (f : Nat → Value), w a = some (.inl (t, n, f)) ∧ vp_in j n ∧ v = f j.toNatClampNeg := by
  unfold ga at h
  split at h
  · rename_i t2 n f hw
    by_cases q : t2 = t ∧ inr_ j n = true
    · rw [if_pos q] at h
      cases h
      obtain ⟨rfl, q2⟩ := q
      exact ⟨n, f, hw, inr_ok q2, rfl⟩
    · rw [if_neg q] at h
      cases h
  · cases h
theorem sa_inv {w w2 : Wld} {a t : Nat} {j : Int32} {v : Value} (h : sa w a t j v = some w2) : ∃ (n : Nat) (f : Nat → Value), w a = some (.inl (t, n, f)) ∧ vp_in j n ∧ w2 = wset w a (.inl (t, n, updV f j.toNatClampNeg v)) := by
  unfold sa at h
  split at h
  · rename_i t2 n f hw
    by_cases q : t2 = t ∧ inr_ j n = true
    · rw [if_pos q] at h
      cases h
      obtain ⟨rfl, q2⟩ := q
      exact ⟨n, f, hw, inr_ok q2, rfl⟩
    · rw [if_neg q] at h
      cases h
  · cases h
theorem gf_inv {w : Wld} {a ci k : Nat} {v : Value} (h : gf w a ci k = some v) : ∃ fs : List Value, w a = some (.inr (ci, fs)) ∧ fs[k]? = some v := by
  unfold gf at h
  split at h
  · rename_i ci2 fs hw
    by_cases q : ci2 = ci
    · rw [if_pos q] at h
      subst q
      exact ⟨fs, hw, h⟩
    · rw [if_neg q] at h
      cases h
  · cases h
theorem pf_inv {w w2 : Wld} {a ci k : Nat} {v : Value} (h : pf w a ci k v = some w2) : ∃ fs : List Value, w a = some (.inr (ci, fs)) ∧ k < fs.length ∧ okv (fty ci k) v = true ∧ w2 = wset w a (.inr (ci, fs.set k v)) := by
  unfold pf at h
  split at h
  · rename_i ci2 fs hw
    by_cases q : ci2 = ci ∧ k < fs.length ∧ okv (fty ci k) v = true
    · rw [if_pos q] at h
      cases h
      obtain ⟨rfl, q2, q3⟩ := q
      exact ⟨fs, hw, q2, q3, rfl⟩
    · rw [if_neg q] at h
      cases h
  · cases h
theorem hasc_inv {w : Wld} {a ci : Nat} (h : hasc w a ci = true) : ∃ fs : List Value, w a = some (.inr (ci, fs)) := by
  unfold hasc at h
  split at h
  · rename_i ci2 fs hw
    have := of_decide_eq_true h
    subst this
    exact ⟨fs, hw⟩
  · cases h
theorem okv_ok {ty : FieldType} {v : Value} (h : okv ty v = true) : narrow ty v = v ∧ fits ty v = true := by
  unfold okv at h
  split at h
  · exact ⟨rfl, rfl⟩
  · exact ⟨of_decide_eq_true (Bool.and_eq_true_iff.mp h).1, (Bool.and_eq_true_iff.mp h).2⟩
  · exact ⟨of_decide_eq_true (Bool.and_eq_true_iff.mp h).1, (Bool.and_eq_true_iff.mp h).2⟩
  · exact ⟨of_decide_eq_true (Bool.and_eq_true_iff.mp h).1, (Bool.and_eq_true_iff.mp h).2⟩
  · exact ⟨rfl, rfl⟩
  · exact ⟨rfl, rfl⟩
  · cases h
section HEAPI
variable {p : Program} {l : Launch} {e : Env} {R : Room} {s : State} {m : MethodId} {args : Array Value} {below : List Frame} {meth : Method} {c : Code} {H : Heap} {locs : List Loc} {cells slots : Nat} {Q : State → Prop}
variable {cc : ByteArray} {b0 : Nat} {D : va_G} {dA : Nat → ClassId} {w : Wld} {n : Option Nat} {A : Nat → Prop} {H0 : Heap} {pc : Nat} {lsR : Array Slot} {r : Stk}
theorem m_getf {Ts : List Cond} {own : String} (hx : p.tables.exec = Jvm.exec) (hb : c.code = cc) (hts : ∀ w ∈ Ts, w.before args s = true) (hown : s.vm.findClass own = some m.cls) (hK : va_K D KL [] s) (hW : WOK b0 D dA w n H) {a ci k idx : Nat} {v : Value} {q : vw_C} (hq : KL[ci]? = some q) (hin : ∀ w ∈ u_ws q.1 q.2.1 q.2.2, w ∈ Ts) (hk : k < q.2.2)
    (hlink : (Cond.fieldLink own idx (q.2.1 k).1 (q.2.1 k).2.1 (q.2.1 k).2.2.1).before args s = true) (hg : gf w a ci k = some v) (hd : decode cc pc = .ok (.getfield idx, 3)) (kk : W p l e R s m args below meth c H locs cells slots Q (F0 m (pc + 3) lsR (v :: r))) : W p l e R s m args below meth c H locs cells slots Q (F0 m pc lsR (.ref a :: r)) := by
  obtain ⟨fs, hwa, hv⟩ := gf_inv hg
  have hP : va_P D KL [(a, .inr (ci, fs))] H := fun j x hj => by
    have hz : j < 1 := (List.getElem?_eq_some_iff.mp hj).1
    rw [show j = 0 by omega] at hj
    cases hj
    exact (hW.1 _ _ hwa).2
  obtain ⟨C, T, N⟩ := q
  exact va_get (own := own) (ref := (T k).1) hx hb hts hin hown hK hP 0 rfl hq k hk hlink (fun _ h => h) hv hd kk
theorem m_putf {Ts : List Cond} {own : String} (hx : p.tables.exec = Jvm.exec) (hb : c.code = cc) (hts : ∀ w ∈ Ts, w.before args s = true) (hown : s.vm.findClass own = some m.cls) (hK : va_K D KL [] s) (hW : WOK b0 D dA w n H) (hS : va_S (fun q => b0 ≤ q) H0 H locs) {a ci k idx : Nat} {v : Value} {q : vw_C} (hq : KL[ci]? = some q) (hin : ∀ w ∈ u_ws q.1 q.2.1 q.2.2, w ∈ Ts) (hk : k < q.2.2)
    (ty0 : Nat → FieldType) (hty : ∀ k, k < q.2.2 → parseFieldDescriptor (q.2.1 k).2.2.1 = some (ty0 k)) (hnm : ∀ a, a < q.2.2 → ∀ b, b < q.2.2 → a ≠ b → (q.2.1 a).2.1 ≠ (q.2.1 b).2.1)
    (hlink : (Cond.fieldLink own idx (q.2.1 k).1 (q.2.1 k).2.1 (q.2.1 k).2.2.1).before args s = true) (hfin : (q.2.1 k).2.2.2 = false ∨ (meth.name = "<init>" ∧ (q.2.1 k).1 = own)) {w2 : Wld} (hg : pf w a ci k v = some w2) (hf : fty ci k = ty0 k) (hd : decode cc pc = .ok (.putfield idx, 3))
    (kk : ∀ (H1 : Heap) (locs1 : List Loc), WOK b0 D dA w2 n H1 → va_S (fun q => b0 ≤ q) H0 H1 locs1 → W p l e R s m args below meth c H1 locs1 cells slots Q (F0 m (pc + 3) lsR r)) : W p l e R s m args below meth c H locs cells slots Q (F0 m pc lsR (v :: .ref a :: r)) := by
  obtain ⟨fs, hwa, hl, hok, rfl⟩ := pf_inv hg
  rw [hf] at hok
  obtain ⟨hn, hfit⟩ := okv_ok hok
  have hea := (hW.1 _ _ hwa)
  obtain ⟨C, T, N⟩ := q
  have hap := va_apart (own := own) hts hin ty0 hty hnm hK hq
  obtain ⟨r9, h1, cell, q1, q2, q3, q4⟩ := hea.2
  have hr : r9 = (C, T, N) := Option.some.inj (h1.symm.trans hq)
  subst hr
  obtain ⟨hSl, hfc, kC, hkC, hkind⟩ := hK.1 ci _ hq
  obtain ⟨cf, kf, fi, f, hi, hsl⟩ := hSl k hk
  have hst := (u_facts hfc hkC (u_lays hts hin hk) hi).1
  have hlay := hts _ (hin _ (u_in_lay hk))
  unfold u_lay at hlay
  have fin : ∀ H' : Heap, H'[a]? = some (cell.setSlot f.slot v) → H'.size = H.size → (∀ q, q ≠ a → H'[q]? = H[q]?) → W p l e R s m args below meth c H' (locs ++ [⟨a, f.slot⟩]) cells slots Q (F0 m (pc + 3) lsR r) := by
    intro H' e1 e2 e3
    rw [hsl] at e1
    exact kk H' _ (hW.set hwa ⟨_, hq, t_OB.to (V := updV (vp_V fs) k v) ⟨_, e1, q2, q3, t_set q4 hap hk v⟩ (fun j _ => vp_updV_set hl v j)⟩ e2 e3) (hS.put e2 e3 hea.1)
  by_cases hff : (T k).2.2.2 = true
  · rw [if_pos hff] at hlay
    rcases hfin with h9 | ⟨hin2, hdecl⟩
    · exact absurd (hff.symm.trans h9) (by decide)
    · have hcf : m.cls = cf := by
        obtain ⟨_, _, c', _, _, _, -, -, hf', -, -, -, hown2, -⟩ := Cond.laysFinal_spec hlay
        have e1 : c' = cf := by have := hi.symm.trans hf'; simp at this; exact this.1.symm
        have hown2 := hdecl ▸ hown2
        rw [← e1]; exact Option.some.inj (hown.symm.trans hown2)
      have h6 := u_fits hfc hkC hkind (Or.inr hlay) hi (hty k hk) hn hfit
      exact W.putFinK hx hb hown hlink hi hst hcf hin2 (by rw [q2]; exact h6) q1 q3 (by rw [hsl]; exact k2_hasslot (q4 k hk)) rfl rfl hd fin
  · rw [if_neg hff] at hlay
    have h6 := u_store hfc hkC hkind hlay hi (hty k hk) hn hfit
    exact W.putK hx hb (f := f) ⟨hown, hlink, ⟨_, _, _, hi⟩, hst⟩ (by rw [q2]; exact h6) q1 q3 (by rw [hsl]; exact k2_hasslot (q4 k hk)) rfl rfl hd fin
theorem m_iald (hx : p.tables.exec = Jvm.exec) (hb : c.code = cc) (hA : AKs dA s) (hW : WOK b0 D dA w n H) {a : Nat} {j : Int32} {v : Value} (hg : ga w a 0 j = some v) (hd : decode cc pc = .ok (.iaload, 1)) (kk : W p l e R s m args below meth c H locs cells slots Q (F0 m (pc + 1) lsR (v :: r))) : W p l e R s m args below meth c H locs cells slots Q (F0 m pc lsR (.int j :: .ref a :: r)) := by
  obtain ⟨N, f, hwa, hin, rfl⟩ := ga_inv hg
  have hlt : j.toNatClampNeg < N := Nat.not_le.mp fun q => hin (Or.inr q)
  exact W.iald hx hb (hW.1 _ _ hwa).2 ((hA 0 _ rfl).1 N f) (fun q => by cases q) (by show ¬ (j < 0 ∨ (arrV _ _ _).slots.size ≤ _); rw [arrV_size]; exact hin) (by show (arrV _ _ _).slots[_]? = _; rw [arrV_read _ _ hlt]) rfl rfl hd kk
theorem m_cald (hx : p.tables.exec = Jvm.exec) (hb : c.code = cc) (hA : AKs dA s) (hW : WOK b0 D dA w n H) {a : Nat} {j : Int32} {v : Value} (hg : ga w a 1 j = some v) (hd : decode cc pc = .ok (.caload, 1)) (kk : W p l e R s m args below meth c H locs cells slots Q (F0 m (pc + 1) lsR (v :: r))) : W p l e R s m args below meth c H locs cells slots Q (F0 m pc lsR (.int j :: .ref a :: r)) := by
  obtain ⟨N, f, hwa, hin, rfl⟩ := ga_inv hg
  have hlt : j.toNatClampNeg < N := Nat.not_le.mp fun q => hin (Or.inr q)
  exact W.cald hx hb (hW.1 _ _ hwa).2 ((hA 1 _ rfl).1 N f) (fun q => by cases q) (by show ¬ (j < 0 ∨ (arrV _ _ _).slots.size ≤ _); rw [arrV_size]; exact hin) (by show (arrV _ _ _).slots[_]? = _; rw [arrV_read _ _ hlt]) rfl rfl hd kk
theorem m_lald (hx : p.tables.exec = Jvm.exec) (hb : c.code = cc) (hA : AKs dA s) (hW : WOK b0 D dA w n H) {a : Nat} {j : Int32} {v : Value} (hg : ga w a 2 j = some v) (hd : decode cc pc = .ok (.laload, 1)) (kk : W p l e R s m args below meth c H locs cells slots Q (F0 m (pc + 1) lsR (v :: r))) : W p l e R s m args below meth c H locs cells slots Q (F0 m pc lsR (.int j :: .ref a :: r)) := by
  obtain ⟨N, f, hwa, hin, rfl⟩ := ga_inv hg
  have hlt : j.toNatClampNeg < N := Nat.not_le.mp fun q => hin (Or.inr q)
  exact W.lald hx hb (hW.1 _ _ hwa).2 ((hA 2 _ rfl).1 N f) (fun q => by cases q) (by show ¬ (j < 0 ∨ (arrV _ _ _).slots.size ≤ _); rw [arrV_size]; exact hin) (by show (arrV _ _ _).slots[_]? = _; rw [arrV_read _ _ hlt]) rfl rfl hd kk
theorem m_bald (hx : p.tables.exec = Jvm.exec) (hb : c.code = cc) (hA : AKs dA s) (hW : WOK b0 D dA w n H) {a : Nat} {j : Int32} {v : Value} (hg : ga w a 3 j = some v) (hd : decode cc pc = .ok (.baload, 1)) (kk : W p l e R s m args below meth c H locs cells slots Q (F0 m (pc + 1) lsR (v :: r))) : W p l e R s m args below meth c H locs cells slots Q (F0 m pc lsR (.int j :: .ref a :: r)) := by
  obtain ⟨N, f, hwa, hin, rfl⟩ := ga_inv hg
  have hlt : j.toNatClampNeg < N := Nat.not_le.mp fun q => hin (Or.inr q)
  exact W.bald hx hb (hW.1 _ _ hwa).2 ((hA 3 _ rfl).1 N f) (fun q => by cases q) (by show ¬ (j < 0 ∨ (arrV _ _ _).slots.size ≤ _); rw [arrV_size]; exact hin) (by show (arrV _ _ _).slots[_]? = _; rw [arrV_read _ _ hlt]) rfl rfl hd kk
theorem m_iast (hx : p.tables.exec = Jvm.exec) (hb : c.code = cc) (hA : AKs dA s) (hW : WOK b0 D dA w n H) (hS : va_S (fun q => b0 ≤ q) H0 H locs) {a : Nat} {j : Int32} {x : Int32} {w2 : Wld} (hg : sa w a 0 j (.int x) = some w2) (hd : decode cc pc = .ok (.iastore, 1))
    (kk : ∀ (H1 : Heap) (locs1 : List Loc), WOK b0 D dA w2 n H1 → va_S (fun q => b0 ≤ q) H0 H1 locs1 → W p l e R s m args below meth c H1 locs1 cells slots Q (F0 m (pc + 1) lsR r)) : W p l e R s m args below meth c H locs cells slots Q (F0 m pc lsR (.int x :: .int j :: .ref a :: r)) := by
  obtain ⟨N, f, hwa, hin, rfl⟩ := sa_inv hg
  refine W.iast hx hb (hW.1 _ _ hwa).2 ((hA 0 _ rfl).1 N f) (fun q => by cases q) (by show ¬ (j < 0 ∨ (arrV _ _ _).slots.size ≤ _); rw [arrV_size]; exact hin) rfl rfl hd fun H1 e1 z oq => ?_
  refine kk H1 _ (hW.set hwa ?_ z oq) (hS.put z oq (hW.1 _ _ hwa).1)
  show H1[a]? = some (arrV _ _ _)
  rw [e1, arrV_store]
theorem m_cast (hx : p.tables.exec = Jvm.exec) (hb : c.code = cc) (hA : AKs dA s) (hW : WOK b0 D dA w n H) (hS : va_S (fun q => b0 ≤ q) H0 H locs) {a : Nat} {j : Int32} {x : Int32} {w2 : Wld} (hg : sa w a 1 j (narrow .char (.int x)) = some w2) (hd : decode cc pc = .ok (.castore, 1))
    (kk : ∀ (H1 : Heap) (locs1 : List Loc), WOK b0 D dA w2 n H1 → va_S (fun q => b0 ≤ q) H0 H1 locs1 → W p l e R s m args below meth c H1 locs1 cells slots Q (F0 m (pc + 1) lsR r)) : W p l e R s m args below meth c H locs cells slots Q (F0 m pc lsR (.int x :: .int j :: .ref a :: r)) := by
  obtain ⟨N, f, hwa, hin, rfl⟩ := sa_inv hg
  refine W.cast hx hb (hW.1 _ _ hwa).2 ((hA 1 _ rfl).1 N f) (fun q => by cases q) (by show ¬ (j < 0 ∨ (arrV _ _ _).slots.size ≤ _); rw [arrV_size]; exact hin) rfl rfl hd fun H1 e1 z oq => ?_
  refine kk H1 _ (hW.set hwa ?_ z oq) (hS.put z oq (hW.1 _ _ hwa).1)
  show H1[a]? = some (arrV _ _ _)
  rw [e1, arrV_store]
theorem m_last (hx : p.tables.exec = Jvm.exec) (hb : c.code = cc) (hA : AKs dA s) (hW : WOK b0 D dA w n H) (hS : va_S (fun q => b0 ≤ q) H0 H locs) {a : Nat} {j : Int32} {x : Int64} {w2 : Wld} (hg : sa w a 2 j (.long x) = some w2) (hd : decode cc pc = .ok (.lastore, 1))
    (kk : ∀ (H1 : Heap) (locs1 : List Loc), WOK b0 D dA w2 n H1 → va_S (fun q => b0 ≤ q) H0 H1 locs1 → W p l e R s m args below meth c H1 locs1 cells slots Q (F0 m (pc + 1) lsR r)) : W p l e R s m args below meth c H locs cells slots Q (F0 m pc lsR (.long x :: .int j :: .ref a :: r)) := by
  obtain ⟨N, f, hwa, hin, rfl⟩ := sa_inv hg
  refine W.last hx hb (hW.1 _ _ hwa).2 ((hA 2 _ rfl).1 N f) (fun q => by cases q) (by show ¬ (j < 0 ∨ (arrV _ _ _).slots.size ≤ _); rw [arrV_size]; exact hin) rfl rfl hd fun H1 e1 z oq => ?_
  refine kk H1 _ (hW.set hwa ?_ z oq) (hS.put z oq (hW.1 _ _ hwa).1)
  show H1[a]? = some (arrV _ _ _)
  rw [e1, arrV_store]
theorem m_bast (hx : p.tables.exec = Jvm.exec) (hb : c.code = cc) (hA : AKs dA s) (hW : WOK b0 D dA w n H) (hS : va_S (fun q => b0 ≤ q) H0 H locs) {a : Nat} {j : Int32} {x : Int32} {w2 : Wld} (hg : sa w a 3 j (narrow .byte (.int x)) = some w2) (hd : decode cc pc = .ok (.bastore, 1))
    (kk : ∀ (H1 : Heap) (locs1 : List Loc), WOK b0 D dA w2 n H1 → va_S (fun q => b0 ≤ q) H0 H1 locs1 → W p l e R s m args below meth c H1 locs1 cells slots Q (F0 m (pc + 1) lsR r)) : W p l e R s m args below meth c H locs cells slots Q (F0 m pc lsR (.int x :: .int j :: .ref a :: r)) := by
  obtain ⟨N, f, hwa, hin, rfl⟩ := sa_inv hg
  refine W.bast hx hb (hW.1 _ _ hwa).2 ((hA 3 _ rfl).1 N f) (fun q => by cases q) (by show ¬ (j < 0 ∨ (arrV _ _ _).slots.size ≤ _); rw [arrV_size]; exact hin) rfl rfl hd fun H1 e1 z oq => ?_
  refine kk H1 _ (hW.set hwa ?_ z oq) (hS.put z oq (hW.1 _ _ hwa).1)
  show H1[a]? = some (arrV _ _ _)
  rw [e1, arrV_store]
theorem m_balen (hx : p.tables.exec = Jvm.exec) (hb : c.code = cc) (hA : AKs dA s) (hW : WOK b0 D dA w n H) {a N : Nat} {f : Nat → Value} (hwa : w a = some (.inl (3, N, f))) (hd : decode cc pc = .ok (.arraylength, 1)) (kk : W p l e R s m args below meth c H locs cells slots Q (F0 m (pc + 1) lsR (.int (Int32.ofNat N) :: r))) : W p l e R s m args below meth c H locs cells slots Q (F0 m pc lsR (.ref a :: r)) :=
  W.alen hx hb (hW.1 _ _ hwa).2 ((hA 3 _ rfl).1 N f) (by rw [arrV_size]) rfl rfl hd kk
theorem m_aald (hx : p.tables.exec = Jvm.exec) (hb : c.code = cc) (hA : AKs dA s) (hW : WOK b0 D dA w n H) {a t : Nat} {C : String} (ht : ATY[t]? = some (.object C)) {j : Int32} {v : Value} (hg : ga w a t j = some v) (hd : decode cc pc = .ok (.aaload, 1)) (kk : W p l e R s m args below meth c H locs cells slots Q (F0 m (pc + 1) lsR (v :: r))) : W p l e R s m args below meth c H locs cells slots Q (F0 m pc lsR (.int j :: .ref a :: r)) := by
  obtain ⟨N, f, hwa, hin, rfl⟩ := ga_inv hg
  have hlt : j.toNatClampNeg < N := Nat.not_le.mp fun q => hin (Or.inr q)
  exact W.aald hx hb (hW.1 _ _ hwa).2 ((hA t _ ht).1 N f) rfl (fun q => by cases q) (by show ¬ (j < 0 ∨ (arrV _ _ _).slots.size ≤ _); rw [arrV_size]; exact hin) (by show (arrV _ _ _).slots[_]? = _; rw [arrV_read _ _ hlt]) rfl rfl hd kk
theorem m_aast (hx : p.tables.exec = Jvm.exec) (hb : c.code = cc) (hA : AKs dA s) (hK : va_K D KL [] s) (hW : WOK b0 D dA w n H) (hS : va_S (fun q => b0 ≤ q) H0 H locs) {a t v ci : Nat} {j : Int32} {C : String} {q : vw_C} (ht : ATY[t]? = some (.object C)) (hq : KL[ci]? = some q) (hC : q.1 = C) (hv : hasc w v ci = true) {w2 : Wld} (hg : sa w a t j (.ref v) = some w2) (hd : decode cc pc = .ok (.aastore, 1))
    (kk : ∀ (H1 : Heap) (locs1 : List Loc), WOK b0 D dA w2 n H1 → va_S (fun q => b0 ≤ q) H0 H1 locs1 → W p l e R s m args below meth c H1 locs1 cells slots Q (F0 m (pc + 1) lsR r)) : W p l e R s m args below meth c H locs cells slots Q (F0 m pc lsR (.ref v :: .int j :: .ref a :: r)) := by
  subst hC
  obtain ⟨N, f, hwa, hin, rfl⟩ := sa_inv hg
  obtain ⟨fs, hwv⟩ := hasc_inv hv
  have hlt : j.toNatClampNeg < N := Nat.not_le.mp fun q => hin (Or.inr q)
  have h0 : ¬ j < 0 := fun q => hin (Or.inl q)
  obtain ⟨r', hr', cellV, g1, g2, g3, -⟩ := (hW.1 _ _ hwv).2
  have hcls := (hK.1 ci q hq).2
  obtain ⟨kA, comp, k1, k2, k3, -⟩ := (hA t _ ht).2
  have hcomp : comp = D.1 ci := Option.some.inj (k3.symm.trans hcls.1)
  subst hcomp
  obtain ⟨kC, hkC, -⟩ := hcls.2
  refine W.aast hx hb (hW.1 _ _ hwa).2 (fun q h => by cases h) (fun h => by cases h) k1 k2 rfl hkC ⟨h0, by show _ < (arrV _ _ _).slots.size; rw [arrV_size]; exact hlt⟩ g1 (fun q h => by rw [g3] at h; cases h) (by rw [g2]; exact hkC) (by rw [g2]; exact va_assign hcls) rfl rfl hd fun H1 e1 z oq => ?_
  refine kk H1 _ (hW.set hwa ?_ z oq) (hS.put z oq (hW.1 _ _ hwa).1)
  show H1[a]? = some (arrV _ _ _)
  rw [e1, arrV_store]
end HEAPI
