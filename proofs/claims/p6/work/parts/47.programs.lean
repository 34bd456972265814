theorem iDiv_p {a b : Int} (ha : 0 ≤ a ∧ a ≤ 2147483647) (hb : 0 < b ∧ b ≤ 2147483647) : iDiv a b = a / b := by
  rw [iDiv_e ⟨by omega, by omega⟩ hb, Int.tdiv_eq_ediv_of_nonneg ha.1]
theorem iRem_p {a b : Int} (ha : 0 ≤ a ∧ a ≤ 2147483647) (hb : 0 < b ∧ b ≤ 2147483647) : iRem a b = a % b := by
  rw [iRem_e ⟨by omega, by omega⟩ hb, Int.tmod_eq_emod_of_nonneg ha.1]
/-- one step of a program at z, with the stack's height h: it takes no more than there is; jumps lead forward, at the same height -/
def xStp (b f t : Int) (h : Int → Int) (z cz : Int) : Prop :=
  0 ≤ cz ∧ (0 ≤ h z ∧ h z ≤ z - f) ∧ (0 ≤ h (z + 1) ∧ h (z + 1) ≤ z + 1 - f) ∧
  ((cz / 1048576 = 0 ∧ h (z + 1) = h z + 1) ∨ (cz / 1048576 = 1 ∧ cz % 1048576 ≤ 12 ∧ h (z + 1) = h z + 1) ∨ (cz / 1048576 = 10 ∧ 1 ≤ h z ∧ h (z + 1) = h z) ∨
   ((cz / 1048576 = 11 ∨ cz / 1048576 = 12) ∧ 1 ≤ h z ∧ h (z + 1) = h z - 1 ∧ z < b + cz % 1048576 ∧ b + cz % 1048576 ≤ t ∧ h (b + cz % 1048576) = h z) ∨
   (2 ≤ cz / 1048576 ∧ cz / 1048576 ≤ 9 ∧ 2 ≤ h z ∧ h (z + 1) = h z - 1))
/-- the steps of c from f to t are a program -/
def xTyp (c : Nat → Int) (b f t : Int) : Prop := ∃ h : Int → Int, h f = 0 ∧ ∀ z : Int, f ≤ z → z < t → xStp b f t h z (c z.toNat)
/-- clause q of the texts is a program for its number and one for its condition -/
def xCl (G : Nat → Nat → Int) (q : Nat) : Prop := 220 * ((q : Int) / 14) ≤ G 14 q ∧ G 14 q ≤ G 15 q ∧ G 15 q ≤ G 16 q ∧ G 16 q ≤ 220 * ((q : Int) / 14) + 200 ∧ xTyp (G 11) (220 * ((q : Int) / 14)) (G 14 q) (G 15 q) ∧ xTyp (G 11) (220 * ((q : Int) / 14)) (G 15 q) (G 16 q)
def WP (G : Nat → Nat → Int) : Prop := ∀ q : Nat, q < 70 → ((q % 14 : Nat) : Int) < G 12 (q / 14) → xCl G q
