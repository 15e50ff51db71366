/-! ===== where the law begins ===== -/
def s00 : Tb := (fun j => if j = 4 then 20 else 0, fun j => if j < 8 then -1 else 0, fun _ _ => 0)
def N00 : Nat → Int32 := fun j => if j = 2 then 20 else 0
def Z00 : Nat → Int32 := fun j => if j = 8 then -1 else 0
def V00 : Nat → Int32 := fun j => if j = 14 then -1 else 0
theorem tv_start : TV 0 0 (fun _ => 0) (fun _ => 0) s00 N00 [] := by
  refine TV.mk ⟨rfl, rfl, rfl, rfl, rfl, rfl, rfl⟩ (fun j hj => ?_) (fun k hk => absurd hk (Nat.not_lt_zero k)) (fun k hk => absurd hk (Nat.not_lt_zero k)) ⟨by decide, rfl, fun i hi => absurd hi (Nat.not_lt_zero i)⟩ ⟨fun a => ⟨fun z => absurd z List.not_mem_nil, fun z => absurd z.1 (Nat.not_lt_zero a)⟩, List.Pairwise.nil, fun a z => absurd z List.not_mem_nil⟩ (fun k hk => absurd hk (Nat.not_lt_zero k)) ⟨fun j hj => absurd hj (Nat.not_lt_zero j), fun j _ h => if_pos h, fun i hi => absurd hi (Nat.not_lt_zero i), fun i hi => absurd hi (Nat.not_lt_zero i)⟩ ⟨20, by decide, rfl⟩ ⟨0, by decide, rfl⟩ (by decide)
  have : N00 (lx j) = 0 := if_neg (by unfold lx; omega)
  show _ = (if j < 8 then (-1 : Int32) else 0) + 1
  rw [this, if_pos hj]
  rfl
theorem rel_start : REL 0 (fun _ => s00) (fun k => k + 4) 3 Z00 (fun _ => 0) (fun _ => 0) (fun _ => 0) (fun _ => 0) V00 N00 (fun _ _ => 0) :=
  ⟨⟨0, [], tv_start⟩, ⟨0, by decide, rfl, rfl, fun k hk => absurd hk (Nat.not_lt_zero k)⟩, ⟨fun k hk => (by dsimp only; omega), by decide, fun j k _ _ h => (by dsimp only at h; omega), fun k _ h => (by dsimp only at h; omega)⟩, ⟨rfl, Or.inl rfl, fun z => absurd z (by decide)⟩, ⟨0, by decide, rfl, rfl, rfl, fun i hi => absurd hi (Nat.not_lt_zero i)⟩, rfl, ⟨rfl, rfl, rfl⟩, ⟨0, by decide, rfl, rfl, fun k hk => absurd hk (Nat.not_lt_zero k)⟩⟩
