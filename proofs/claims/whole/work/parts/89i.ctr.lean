/-! ===== constructors ===== -/
section CTR
variable {X : Cxt} {w : Wld} {n : Option Nat} {Q : (Option Value ⊕ String) → Wld → Option Nat → Prop} {a : Nat}
theorem seat_new : Ev X 0 0 [some (.ref a)] [] w n 0 0 Q ↔ Q (.inl none) w n := by rw [X1_init_0, X1_init_1, X1_init_4]
theorem refusal_new : Ev X 3 0 [some (.ref a)] [] w n 0 0 Q ↔ Q (.inl none) w n := by rw [X0_init_0, X0_init_1, X0_init_4]
end CTR
