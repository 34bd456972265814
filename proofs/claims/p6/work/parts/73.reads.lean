-- reading: steps of several writes at once
theorem hrM_8 {V u : Nat → Nat → Int} {a : Int} (h : u = up2 V 0 8 a) : hrM u = hrM V := by
  subst h
  unfold hrM
  rw [up0 (Or.inr (by omega)), up0 (Or.inr (by omega)), up0r (by omega)]
