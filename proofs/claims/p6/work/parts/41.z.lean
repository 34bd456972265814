theorem FBm.cp {m : Nat} {V W X : Nat → Nat → Int} (h : FBm m V W) {a b n : Nat} (hX : X = cpN W a b n) (ht : ∀ k, m.testBit (mkey b k) = true) : FBm m V X := by
  subst hX
  intro j q hj
  unfold cpN
  split
  · next hh =>
    obtain ⟨rfl, -⟩ := hh
    rw [ht] at hj
    cases hj
  · exact h j q hj
