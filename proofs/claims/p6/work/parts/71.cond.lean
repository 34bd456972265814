-- within a condition
def pnt (w : Nat → Int) : Nat → Int
  | 0 => 0
  | n + 1 => pnt w n + (if pdv (w n) = 10 then 1 else 0)
theorem pnt_nn (w : Nat → Int) : ∀ n : Nat, 0 ≤ pnt w n
  | 0 => Int.le_refl _
  | n + 1 => by
    have := pnt_nn w n
    rw [pnt]
    split <;> omega
theorem pnt_c {w w2 : Nat → Int} : ∀ n : Nat, (∀ j : Nat, j < n → w2 j = w j) → pnt w2 n = pnt w n
  | 0, _ => rfl
  | n + 1, h => by rw [pnt, pnt, pnt_c n (fun j hj => h j (by omega)), h n (by omega)]
def pjm (x : Int) : Prop := x = 11 ∨ x = 12
def pcs (h : Int → Int) (w : Nat → Int) (W f C z cz : Int) : Prop := 0 ≤ cz ∧ (0 ≤ h z ∧ h z ≤ z - f) ∧ (0 ≤ h (z + 1) ∧ h (z + 1) ≤ z + 1 - f) ∧
  ((cz / 1048576 = 0 ∧ h (z + 1) = h z + 1) ∨ (cz / 1048576 = 1 ∧ cz % 1048576 ≤ 12 ∧ h (z + 1) = h z + 1) ∨ (cz / 1048576 = 10 ∧ 1 ≤ h z ∧ h (z + 1) = h z) ∨
   (pjm (cz / 1048576) ∧ h z = 1 ∧ h (z + 1) = 0 ∧ ((∃ j : Nat, (j : Int) < W ∧ pjm (pdv (w j)) ∧ prm (w j) = z) ∨ (z < cz % 1048576 ∧ cz % 1048576 ≤ C ∧ h (cz % 1048576) = 1))) ∨
   (2 ≤ cz / 1048576 ∧ cz / 1048576 ≤ 9 ∧ 2 ≤ h z ∧ h (z + 1) = h z - 1))
def pen (V : Nat → Nat → Int) (f : Int) (j : Nat) : Prop := pdv (V 6 j) = 10 ∨ pdv (V 6 j) = 13 ∨ (pjm (pdv (V 6 j)) ∧ f ≤ prm (V 6 j) ∧ prm (V 6 j) < V 0 10 ∧ pjm (V 5 (prm (V 6 j)).toNat / 1048576))
/-- within a condition: the code from f on, d: what is still to be noted, e: the stack's height -/
def CI (f d e : Int) (V : Nat → Nat → Int) : Prop := 0 ≤ f ∧ f ≤ V 0 10 ∧ 0 ≤ d ∧ V 0 10 + pnt (V 6) (V 0 11).toNat + d ≤ V 0 5 ∧ 0 ≤ V 0 11 ∧ (0 < V 0 11 → pdv (V 6 0) = 13) ∧ (∀ j : Nat, (j : Int) < V 0 11 → pen V f j) ∧
  ∃ h : Int → Int, h f = 0 ∧ h (V 0 10) = e ∧ ∀ z : Int, f ≤ z → z < V 0 10 → pcs h (V 6) (V 0 11) f (V 0 10) z (V 5 z.toNat)
theorem CI.start {V : Nat → Nat → Int} (h11 : V 0 11 = 0) (hc : 0 ≤ V 0 10 ∧ V 0 10 ≤ V 0 5) : CI (V 0 10) 0 0 V := by
  refine ⟨hc.1, Int.le_refl _, Int.le_refl _, ?_, by omega, fun h => by omega, fun j hj => by omega, fun _ => 0, rfl, rfl, fun z h1 h2 => by omega⟩
  rw [h11]
  show V 0 10 + 0 + 0 ≤ _
  omega
theorem CI.eb {f d e : Int} {V : Nat → Nat → Int} (h : CI f d e V) : e ≤ V 0 10 - f := by
  obtain ⟨a1, a2, a3, a4, a5, a6, a7, g, g0, g1, g2⟩ := h
  by_cases hz : f = V 0 10
  · rw [← hz, g0] at g1; omega
  · have := (g2 (V 0 10 - 1) (by omega) (by omega)).2.2.1.2
    rw [show V 0 10 - 1 + 1 = V 0 10 by omega, g1] at this
    exact this
theorem CI.c200 {f d e : Int} {V : Nat → Nat → Int} (h : CI f d e V) (hP : PG V) : V 0 10 ≤ 200 ∧ V 0 11 ≤ 200 ∧ V 0 5 ≤ 200 := by
  obtain ⟨p1, p2, p3, p4, p5, p6⟩ := hP
  obtain ⟨a1, a2, a3, a4, -⟩ := h
  have := pnt_nn (V 6) (V 0 11).toNat
  omega
theorem CI.slack {f d e d2 : Int} {V u : Nat → Nat → Int} (h : CI f d e V) (h5 : u 5 = V 5) (h6 : u 6 = V 6) (h10 : u 0 10 = V 0 10) (h11 : u 0 11 = V 0 11) (hd : 0 ≤ d2) (hp : d2 - d ≤ u 0 5 - V 0 5) : CI f d2 e u := by
  obtain ⟨a1, a2, a3, a4, a5, a6, a7, a8⟩ := h
  unfold CI pen
  rw [h5, h6, h10, h11]
  exact ⟨a1, a2, hd, by omega, a5, a6, a7, a8⟩
/-- the code's word there grows: what was right of a step stays right -/
theorem pcs.grow {h h2 : Int → Int} {w w2 : Nat → Int} {W W2 f C C2 z cz : Int} (k : pcs h w W f C z cz) (hz : z < C) (hC : C ≤ C2) (hh : ∀ y : Int, y ≤ C → h2 y = h y) (hw : ∀ j : Nat, (j : Int) < W → pjm (pdv (w j)) → prm (w j) = z → ∃ j2 : Nat, (j2 : Int) < W2 ∧ pjm (pdv (w2 j2)) ∧ prm (w2 j2) = z) : pcs h2 w2 W2 f C2 z cz := by
  obtain ⟨k1, k2, k3, k4⟩ := k
  refine ⟨k1, by rw [hh z (by omega)]; exact k2, by rw [hh (z + 1) (by omega)]; exact k3, ?_⟩
  rw [hh z (by omega), hh (z + 1) (by omega)]
  rcases k4 with q | q | q | ⟨q1, q2, q3, q4⟩ | q
  · exact Or.inl q
  · exact Or.inr (Or.inl q)
  · exact Or.inr (Or.inr (Or.inl q))
  · refine Or.inr (Or.inr (Or.inr (Or.inl ⟨q1, q2, q3, ?_⟩)))
    rcases q4 with ⟨j, j1, j2, j3⟩ | ⟨r1, r2, r3⟩
    · exact Or.inl (hw j j1 j2 j3)
    · exact Or.inr ⟨r1, by omega, by rw [hh _ (by omega)]; exact r3⟩
  · exact Or.inr (Or.inr (Or.inr (Or.inr q)))
theorem pen.grow {V u : Nat → Nat → Int} {f : Int} {j : Nat} (h : pen V f j) (h6 : u 6 j = V 6 j) (h10 : V 0 10 ≤ u 0 10) (h5 : ∀ k : Nat, (k : Int) < V 0 10 → u 5 k = V 5 k) (hf : 0 ≤ f) : pen u f j := by
  unfold pen at h ⊢
  rw [h6]
  rcases h with h | h | ⟨h1, h2, h3, h4⟩
  · exact Or.inl h
  · exact Or.inr (Or.inl h)
  · exact Or.inr (Or.inr ⟨h1, h2, by omega, by rw [h5 _ (by omega)]; exact h4⟩)
/-- a sum was read -/
theorem CI.sum {f d e : Int} {V u : Nat → Nat → Int} (h : CI f d e V) (he : 0 ≤ e) (hs : psl (u 5) (V 0 10) (u 0 10) 1) (h10 : V 0 10 ≤ u 0 10) (h5 : ∀ k : Nat, (k : Int) < V 0 10 → u 5 k = V 5 k) (h6 : ∀ k : Nat, (k : Int) < V 0 11 → u 6 k = V 6 k) (h11 : u 0 11 = V 0 11) (hp : u 0 10 - V 0 10 ≤ u 0 5 - V 0 5) : CI f d (e + 1) u := by
  have heb := h.eb
  obtain ⟨a1, a2, a3, a4, a5, a6, a7, g, g0, g1, g2⟩ := h
  obtain ⟨s, s0, s1, s2⟩ := hs
  refine ⟨a1, by omega, a3, ?_, by omega, fun h0 => by rw [h6 0 (by omega)]; exact a6 (by omega), fun j hj => (a7 j (by omega)).grow (h6 j (by omega)) h10 h5 a1, fun z => if z ≤ V 0 10 then g z else e + s z, ?_, ?_, fun z z1 z2 => ?_⟩
  · rw [h11, pnt_c (w := V 6) _ (fun j hj => h6 j (by omega))]; omega
  · show (if f ≤ V 0 10 then g f else e + s f) = 0
    rw [if_pos a2]; exact g0
  · show (if u 0 10 ≤ V 0 10 then g (u 0 10) else e + s (u 0 10)) = e + 1
    by_cases q : u 0 10 ≤ V 0 10
    · exfalso
      have : u 0 10 = V 0 10 := by omega
      rw [this, s0] at s1
      omega
    · rw [if_neg q, s1]
  · by_cases q : z < V 0 10
    · rw [h5 z.toNat (by omega)]
      exact (g2 z z1 q).grow q (by omega) (fun y hy => if_pos hy) (fun j j1 j2 j3 => ⟨j, by omega, by rw [h6 j (by omega)]; exact j2, by rw [h6 j (by omega)]; exact j3⟩)
    · have ez : (if z ≤ V 0 10 then g z else e + s z) = e + s z := by
        by_cases q2 : z ≤ V 0 10
        · have : z = V 0 10 := by omega
          rw [if_pos q2, this, g1, s0]; omega
        · rw [if_neg q2]
      have ez1 : (if z + 1 ≤ V 0 10 then g (z + 1) else e + s (z + 1)) = e + s (z + 1) := if_neg (by omega)
      obtain ⟨t1, t2, t3, t4, t5, t6⟩ := s2 z (by omega) z2
      show pcs (fun z => if z ≤ V 0 10 then g z else e + s z) _ _ _ _ _ _
      refine ⟨t3, ?_, ?_, ?_⟩
      · show 0 ≤ (if z ≤ V 0 10 then g z else e + s z) ∧ (if z ≤ V 0 10 then g z else e + s z) ≤ z - f
        rw [ez]; omega
      · show 0 ≤ (if z + 1 ≤ V 0 10 then g (z + 1) else e + s (z + 1)) ∧ (if z + 1 ≤ V 0 10 then g (z + 1) else e + s (z + 1)) ≤ z + 1 - f
        rw [ez1]; omega
      · dsimp only
        rw [ez, ez1]
        rcases t6 with q | q | q
        · exact Or.inl (by omega)
        · exact Or.inr (Or.inl (by omega))
        · exact Or.inr (Or.inr (Or.inr (Or.inr (by omega))))
/-- a word is noted behind: a NOT (the height stays) or what takes two and leaves one -/
theorem CI.note {f d e d2 e2 : Int} {V u : Nat → Nat → Int} {w : Int} (h : CI f d e V) (hw : 0 ≤ w ∧ ((w / 1048576 = 10 ∧ 1 ≤ e ∧ e2 = e) ∨ (2 ≤ w / 1048576 ∧ w / 1048576 ≤ 9 ∧ 2 ≤ e ∧ e2 = e - 1))) (h5 : ∀ k : Nat, u 5 k = if k = (V 0 10).toNat then w else V 5 k) (h6 : u 6 = V 6) (h10 : u 0 10 = V 0 10 + 1) (h11 : u 0 11 = V 0 11) (hd : 0 ≤ d2) (hp : d2 + 1 - d ≤ u 0 5 - V 0 5) : CI f d2 e2 u := by
  have heb := h.eb
  obtain ⟨a1, a2, a3, a4, a5, a6, a7, g, g0, g1, g2⟩ := h
  refine ⟨a1, by omega, hd, by rw [h6, h11]; omega, by omega, fun h0 => by rw [h6]; exact a6 (by omega), fun j hj => (a7 j (by omega)).grow (by rw [h6]) (by omega) (fun k hk => by rw [h5, if_neg (by omega)]) a1, fun z => if z = V 0 10 + 1 then e2 else g z, ?_, ?_, fun z z1 z2 => ?_⟩
  · show (if f = V 0 10 + 1 then e2 else g f) = 0
    rw [if_neg (by omega)]; exact g0
  · show (if u 0 10 = V 0 10 + 1 then e2 else g (u 0 10)) = e2
    rw [if_pos h10]
  · by_cases q : z < V 0 10
    · rw [h5 z.toNat, if_neg (by omega)]
      exact (g2 z z1 q).grow q (by omega) (fun y hy => if_neg (by omega)) (fun j j1 j2 j3 => ⟨j, by omega, by rw [h6]; exact j2, by rw [h6]; exact j3⟩)
    · have hz : z = V 0 10 := by omega
      subst hz
      rw [h5, if_pos rfl]
      have e1 : (if V 0 10 = V 0 10 + 1 then e2 else g (V 0 10)) = e := by rw [if_neg (by omega), g1]
      have e3 : (if V 0 10 + 1 = V 0 10 + 1 then e2 else g (V 0 10 + 1)) = e2 := if_pos rfl
      refine ⟨hw.1, ?_, ?_, ?_⟩
      · show 0 ≤ (if V 0 10 = V 0 10 + 1 then e2 else g (V 0 10)) ∧ (if V 0 10 = V 0 10 + 1 then e2 else g (V 0 10)) ≤ V 0 10 - f
        rw [e1]; omega
      · show 0 ≤ (if V 0 10 + 1 = V 0 10 + 1 then e2 else g (V 0 10 + 1)) ∧ (if V 0 10 + 1 = V 0 10 + 1 then e2 else g (V 0 10 + 1)) ≤ V 0 10 + 1 - f
        rw [e3]; omega
      · dsimp only
        rw [e1, e3]
        rcases hw.2 with q | q
        · exact Or.inr (Or.inr (Or.inl q))
        · exact Or.inr (Or.inr (Or.inr (Or.inr q)))
/-- a ( or a ! begins -/
theorem CI.opn {f d e : Int} {V u : Nat → Nat → Int} {x : Int} (h : CI f d e V) (hx : pdv x = 13 ∨ (pdv x = 10 ∧ 0 < V 0 11)) (h5 : u 5 = V 5) (h6 : ∀ k : Nat, u 6 k = if k = (V 0 11).toNat then x else V 6 k) (h10 : u 0 10 = V 0 10) (h11 : u 0 11 = V 0 11 + 1) (hp : u 0 5 = V 0 5 + 1) : CI f d e u := by
  obtain ⟨a1, a2, a3, a4, a5, a6, a7, g, g0, g1, g2⟩ := h
  have o6 : ∀ j : Nat, (j : Int) < V 0 11 → u 6 j = V 6 j := fun j hj => by rw [h6, if_neg (by omega)]
  refine ⟨a1, by omega, a3, ?_, by omega, fun h0 => ?_, fun j hj => ?_, g, g0, by rw [h10]; exact g1, fun z z1 z2 => ?_⟩
  · rw [h11, show (V 0 11 + 1).toNat = (V 0 11).toNat + 1 by omega, pnt, pnt_c (w := V 6) _ (fun j hj => o6 j (by omega)), h10, hp]
    split <;> omega
  · by_cases q : V 0 11 = 0
    · rw [h6, if_pos (by omega)]
      rcases hx with hx | hx
      · exact hx
      · omega
    · rw [o6 0 (by omega)]; exact a6 (by omega)
  · by_cases q : j = (V 0 11).toNat
    · unfold pen
      rw [h6, if_pos q]
      rcases hx with hx | hx
      · exact Or.inr (Or.inl hx)
      · exact Or.inl hx.1
    · exact (a7 j (by omega)).grow (o6 j (by omega)) (by omega) (fun k _ => by rw [h5]) a1
  · rw [h5]
    exact (g2 z z1 (by omega)).grow (by omega) (by omega) (fun y _ => rfl) (fun j j1 j2 j3 => ⟨j, by omega, by rw [o6 j j1]; exact j2, by rw [o6 j j1]; exact j3⟩)
/-- what waits on top is taken off: no jump -/
theorem CI.pop {f d e d2 : Int} {V u : Nat → Nat → Int} (h : CI f d e V) (h0 : 0 < V 0 11) (hx : ¬ pjm (pdv (V 6 (V 0 11 - 1).toNat))) (h5 : u 5 = V 5) (h6 : u 6 = V 6) (h10 : u 0 10 = V 0 10) (h11 : u 0 11 = V 0 11 - 1) (hd : 0 ≤ d2) (hp : d2 - d ≤ u 0 5 - V 0 5 ∨ (pdv (V 6 (V 0 11 - 1).toNat) = 10 ∧ d2 - 1 - d ≤ u 0 5 - V 0 5)) : CI f d2 e u := by
  obtain ⟨a1, a2, a3, a4, a5, a6, a7, g, g0, g1, g2⟩ := h
  refine ⟨a1, by omega, hd, ?_, by omega, fun h0 => by rw [h6]; exact a6 (by omega), fun j hj => (a7 j (by omega)).grow (by rw [h6]) (by omega) (fun k _ => by rw [h5]) a1, g, g0, by rw [h10]; exact g1, fun z z1 z2 => ?_⟩
  · have e1 : (V 0 11).toNat = (V 0 11 - 1).toNat + 1 := by omega
    rw [e1, pnt] at a4
    rw [h10, h6, h11]
    rcases hp with hp | ⟨hp, hq⟩
    · split at a4 <;> omega
    · rw [if_pos hp] at a4; omega
  · rw [h5]
    refine (g2 z z1 (by omega)).grow (by omega) (by omega) (fun y _ => rfl) (fun j j1 j2 j3 => ⟨j, ?_, by rw [h6]; exact j2, by rw [h6]; exact j3⟩)
    by_cases q : (j : Int) = V 0 11 - 1
    · have : j = (V 0 11 - 1).toNat := by omega
      rw [this] at j2
      exact absurd j2 hx
    · omega
