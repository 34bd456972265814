-- the references that stay
def RK (R2 R : Nat → Nat → Nat) : Prop := ∀ i : Nat, i ≤ 72 → R2 i = R i
theorem RK.rf (R : Nat → Nat → Nat) : RK R R := fun _ _ => rfl
theorem RK.up {R1 R R2 : Nat → Nat → Nat} (h : RK R1 R) {i k a : Nat} (hX : R2 = up2 R1 i k a) (hi : 73 ≤ i) : RK R2 R := by
  subst hX
  intro j hj
  rw [up2_c _ _ (by omega)]
  exact h j hj
theorem RK.tr {R3 R2 R1 : Nat → Nat → Nat} (h : RK R2 R1) (h2 : RK R3 R2) : RK R3 R1 := fun i hi => (h2 i hi).trans (h i hi)
