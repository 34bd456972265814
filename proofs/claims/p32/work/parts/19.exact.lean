-- frames: what a method does not change
def FB (P : Nat → Nat → Prop) (V W : Nat → Nat → Int) : Prop := ∀ i k : Nat, ¬ P i k → W i k = V i k
section XFB
variable {P P2 : Nat → Nat → Prop} {V W X : Nat → Nat → Int} {i k : Nat} {a : Int}
theorem FB.rf (P : Nat → Nat → Prop) (V : Nat → Nat → Int) : FB P V V := fun _ _ _ => rfl
theorem FB.up (h : FB P V W) (hX : X = up2 W i k a) (hp : P i k) : FB P V X := by
  subst hX
  intro j q hj
  by_cases e : j = i ∧ q = k
  · obtain ⟨rfl, rfl⟩ := e
    exact absurd hp hj
  · rw [up2_n _ _ (by omega)]
    exact h j q hj
theorem FB.tr (h : FB P V W) (h2 : FB P2 W X) (hs : ∀ i k, P2 i k → P i k) : FB P V X := fun i k hi => (h2 i k (fun hh => hi (hs i k hh))).trans (h i k hi)
theorem FB.cp (h : FB P V W) {sp j dp n : Nat} (hX : X = cpV W i sp j dp n) (hp : ∀ k, P j k) : FB P V X := by
  subst hX
  intro q r hq
  unfold cpV
  split
  · next hh =>
    obtain ⟨rfl, -, -⟩ := hh
    exact absurd (hp r) hq
  · exact h q r hq
def mkey (i k : Nat) : Nat := if i = 0 then k else 64 + i
theorem mkey_r {i k : Nat} (h : i ≠ 0) : mkey i k = 64 + i := if_neg h
def FBm (m : Nat) (V W : Nat → Nat → Int) : Prop := ∀ i k : Nat, m.testBit (mkey i k) = false → W i k = V i k
theorem FBm.rf (m : Nat) (V : Nat → Nat → Int) : FBm m V V := fun _ _ _ => rfl
theorem FBm.up {m : Nat} (h : FBm m V W) (hX : X = up2 W i k a) (ht : m.testBit (mkey i k) = true) : FBm m V X := by
  subst hX
  intro j q hj
  by_cases e : j = i ∧ q = k
  · obtain ⟨rfl, rfl⟩ := e
    rw [ht] at hj
    cases hj
  · rw [up2_n _ _ (by omega)]
    exact h j q hj
theorem FBm.tr {m1 : Nat} (h : FBm m1 V W) {m : Nat} (h2 : FBm m W X) (hs : m &&& m1 = m) : FBm m1 V X := fun i k hi => by
  refine (h2 i k ?_).trans (h i k hi)
  rw [← hs, Nat.testBit_and, hi, Bool.and_false]
end XFB
