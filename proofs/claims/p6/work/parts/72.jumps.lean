-- jumps
theorem pcs.jump {h : Int → Int} {w : Nat → Int} {W f C z cz : Int} (k : pcs h w W f C z cz) (hj : pjm (cz / 1048576)) : h z = 1 ∧ h (z + 1) = 0 := by
  have h4 := k.2.2.2
  clear k
  unfold pjm at hj
  rcases h4 with q | q | q | q | q
  · exact absurd q.1 (by omega)
  · exact absurd q.1 (by omega)
  · exact absurd q.1 (by omega)
  · exact ⟨q.2.1, q.2.2.1⟩
  · exact absurd q.2.1 (by omega)
def plv (w x C : Int) : Prop := 0 ≤ w ∧ w / 1048576 = x / 1048576 ∧ w % 1048576 = C
theorem plv_m {x C : Int} (hx : 0 ≤ x) (hC : 0 ≤ C ∧ C ≤ 1048575) : plv (1048576 * (x / 1048576) + C) x C := by
  have hy : 0 ≤ x / 1048576 := Int.ediv_nonneg hx (by omega)
  unfold plv
  generalize x / 1048576 = y at hy ⊢
  exact ⟨by omega, by omega, by omega⟩
def pop2 (op : Int) : Prop := 0 ≤ 1048576 * op ∧ 1048576 * op / 1048576 = op ∧ 0 ≤ op ∧ op ≤ 14 ∧ ¬ op = 10
theorem pop2_m {op : Int} (h : pjm op) : pop2 op := by
  unfold pjm at h
  exact ⟨by omega, by omega, by omega, by omega, by omega⟩
/-- a jump that waits on top is landed here -/
theorem CI.land {f d : Int} {V u : Nat → Nat → Int} {q : Nat} {wd : Int} (h : CI f d 1 V) (h0 : 0 < V 0 11) (hC : V 0 10 ≤ 1048575) (hx : pjm (pdv (V 6 (V 0 11 - 1).toNat))) (hq : (q : Int) = prm (V 6 (V 0 11 - 1).toNat)) (hwd : wd = 1048576 * (V 5 q / 1048576) + V 0 10) (h5 : ∀ k : Nat, u 5 k = if k = q then wd else V 5 k) (h6 : u 6 = V 6) (h10 : u 0 10 = V 0 10) (h11 : u 0 11 = V 0 11 - 1) (hp : u 0 5 = V 0 5) : CI f d 1 u := by
  obtain ⟨a1, a2, a3, a4, a5, a6, a7, g, g0, g1, g2⟩ := h
  have r0 : f ≤ (q : Int) ∧ (q : Int) < V 0 10 ∧ pjm (V 5 q / 1048576) := by
    have k := a7 (V 0 11 - 1).toNat (by clear hwd; omega)
    unfold pen at k
    rw [← hq, Int.toNat_natCast] at k
    unfold pjm at hx k
    clear hwd
    rcases k with k | k | k
    · exact absurd k (by omega)
    · exact absurd k (by omega)
    · exact k.2
  obtain ⟨r1, r2, r3⟩ := r0
  have hcq : 0 ≤ V 5 q := by
    have := (g2 q r1 r2).1
    rw [Int.toNat_natCast] at this
    exact this
  have hv : plv wd (V 5 q) (V 0 10) := by rw [hwd]; exact plv_m hcq ⟨by clear hwd; omega, hC⟩
  clear hwd
  obtain ⟨v1, v2, v3⟩ := hv
  have n5 : ∀ k : Nat, k ≠ q → u 5 k = V 5 k := fun k hk => by rw [h5, if_neg hk]
  have n5q : u 5 q = wd := by rw [h5, if_pos rfl]
  have e1 : (V 0 11).toNat = (V 0 11 - 1).toNat + 1 := by clear v2 v3; omega
  have i1 : ∀ j : Nat, (j : Int) < u 0 11 → (j : Int) < V 0 11 := fun j hj => by rw [h11] at hj; clear v2 v3; omega
  have i2 : ∀ j : Nat, (j : Int) < V 0 11 → j ≠ (V 0 11 - 1).toNat → (j : Int) < u 0 11 := fun j hj hn => by rw [h11]; clear v2 v3; omega
  refine ⟨a1, by rw [h10]; exact a2, a3, ?_, by rw [h11]; clear v2 v3; omega, fun hh => by rw [h6]; exact a6 h0, fun j hj => ?_, g, g0, by rw [h10]; exact g1, fun z z1 z2 => ?_⟩
  · rw [e1, pnt] at a4
    rw [h10, h6, h11, hp]
    clear v2 v3
    split at a4 <;> omega
  · have k := a7 j (i1 j hj)
    unfold pen at k ⊢
    rw [h6, h10]
    rcases k with k | k | ⟨k1, k2, k3, k4⟩
    · exact Or.inl k
    · exact Or.inr (Or.inl k)
    · refine Or.inr (Or.inr ⟨k1, k2, k3, ?_⟩)
      by_cases w : (prm (V 6 j)).toNat = q
      · rw [w, n5q, v2]; exact r3
      · rw [n5 _ w]; exact k4
  · rw [h10] at z2
    have k := g2 z z1 z2
    by_cases w : z.toNat = q
    · rw [w] at k
      rw [w, n5q, h10]
      obtain ⟨b1, b2⟩ := k.jump r3
      refine ⟨v1, k.2.1, k.2.2.1, Or.inr (Or.inr (Or.inr (Or.inl ⟨by rw [v2]; exact r3, b1, b2, Or.inr ⟨?_, ?_, ?_⟩⟩)))⟩
      · rw [v3]; exact z2
      · rw [v3]; exact Int.le_refl _
      · rw [v3]; exact g1
    · rw [n5 _ w, h10]
      refine k.grow z2 (Int.le_refl _) (fun y _ => rfl) (fun j j1 j2 j3 => ⟨j, i2 j j1 (fun y => w ?_), by rw [h6]; exact j2, by rw [h6]; exact j3⟩)
      rw [y] at j3
      rw [← j3, ← hq, Int.toNat_natCast]
/-- a jump is noted and waits -/
theorem CI.jump {f d : Int} {V u : Nat → Nat → Int} {op : Int} (h : CI f d 1 V) (hC : V 0 10 ≤ 1048575) (hw0 : 0 < V 0 11) (ho : pjm op) (h5 : ∀ k : Nat, u 5 k = if k = (V 0 10).toNat then 1048576 * op else V 5 k) (h6 : ∀ k : Nat, u 6 k = if k = (V 0 11).toNat then 1048576 * op + V 0 10 else V 6 k) (h10 : u 0 10 = V 0 10 + 1) (h11 : u 0 11 = V 0 11 + 1) (hp : u 0 5 = V 0 5 + 1) : CI f d 0 u := by
  have o6 : ∀ j : Nat, (j : Int) < V 0 11 → u 6 j = V 6 j := fun j hj => by rw [h6, if_neg (by clear h h5 h6; omega)]
  have o5 : ∀ k : Nat, (k : Int) < V 0 10 → u 5 k = V 5 k := fun k hk => by rw [h5, if_neg (by clear h h5 h6; omega)]
  have on : u 6 (V 0 11).toNat = 1048576 * op + V 0 10 := by rw [h6, if_pos rfl]
  have o3 : u 5 (V 0 10).toNat = 1048576 * op := by rw [h5, if_pos rfl]
  clear h5 h6
  have heb := h.eb
  obtain ⟨a1, a2, a3, a4, a5, a6, a7, g, g0, g1, g2⟩ := h
  have hC0 : 0 ≤ V 0 10 := Int.le_trans a1 a2
  have oz : ∀ z : Int, z < u 0 10 → ¬ z < V 0 10 → z = V 0 10 := fun z z2 q => by clear on o3; omega
  have hjn : ∀ j : Nat, (j : Int) < u 0 11 → j ≠ (V 0 11).toNat → (j : Int) < V 0 11 := fun j h1 h2 => by clear on o3; omega
  have hle : V 0 10 ≤ u 0 10 := by clear on o3; omega
  have hfl : f ≤ u 0 10 := by clear on o3; omega
  have h11n : 0 ≤ u 0 11 := by clear on o3; omega
  have hnat : ((V 0 11).toNat : Int) < u 0 11 := by clear on o3; omega
  have hC1 : V 0 10 < u 0 10 := by clear on o3; omega
  have hC2 : 0 ≤ V 0 10 + 1 - f := by clear on o3; omega
  have htn : ∀ z : Int, 0 ≤ z → z < V 0 10 → ((z.toNat : Nat) : Int) < V 0 10 := fun z h1 h2 => by clear on o3; omega
  have g10 : ∀ y : Int, y ≤ V 0 10 → (if y = V 0 10 + 1 then 0 else g y) = g y := fun y hy => if_neg (by clear on o3; omega)
  have hsum : ∀ y : Int, y = pnt (V 6) (V 0 11).toNat → (V 0 10 + 1 : Int) + (y + 0) + d ≤ V 0 5 + 1 := fun y hy => by clear on o3; omega
  obtain ⟨m1, m2, m3, m4, m5⟩ := pop2_m ho
  have o1 : pdv (u 6 (V 0 11).toNat) = op := by rw [on]; exact pdv_m ⟨m3, m4⟩ ⟨hC0, hC⟩
  have o2 : prm (u 6 (V 0 11).toNat) = V 0 10 := by rw [on]; exact prm_m ⟨m3, m4⟩ ⟨hC0, hC⟩
  have o4 : pjm (u 5 (V 0 10).toNat / 1048576) := by rw [o3, m2]; exact ho
  have o7 : 0 ≤ u 5 (V 0 10).toNat := by rw [o3]; exact m1
  clear on o3 m1 m2
  have g11 : (if V 0 10 + 1 = V 0 10 + 1 then (0 : Int) else g (V 0 10 + 1)) = 0 := if_pos rfl
  have hfin : (V 0 10 + 1 : Int) + pnt (u 6) (V 0 11 + 1).toNat + d ≤ V 0 5 + 1 := by
    have e0 : (V 0 11 + 1).toNat = (V 0 11).toNat + 1 := by clear o1 o2 o4 o7 g11; omega
    rw [e0, pnt, pnt_c (w := V 6) _ (fun j hj => o6 j (by clear o1 o2 o4 o7 g11; omega)), o1, if_neg m5]
    exact hsum _ rfl
  refine ⟨a1, hfl, a3, by rw [h11, h10, hp]; exact hfin, h11n, fun hh => by rw [o6 0 hw0]; exact a6 hw0, fun j hj => ?_, fun z => if z = V 0 10 + 1 then 0 else g z, ?_, ?_, fun z z1 z2 => ?_⟩
  · by_cases q : j = (V 0 11).toNat
    · subst q
      unfold pen
      rw [o1, o2]
      exact Or.inr (Or.inr ⟨ho, a2, hC1, o4⟩)
    · exact (a7 j (hjn j hj q)).grow (o6 j (hjn j hj q)) hle o5 a1
  · show (if f = V 0 10 + 1 then 0 else g f) = 0
    rw [g10 f a2]; exact g0
  · show (if u 0 10 = V 0 10 + 1 then 0 else g (u 0 10)) = 0
    rw [if_pos h10]
  · by_cases q : z < V 0 10
    · rw [o5 z.toNat (htn z (Int.le_trans a1 z1) q)]
      exact (g2 z z1 q).grow q hle g10 (fun j j1 j2 j3 => ⟨j, Int.lt_trans j1 (by rw [h11]; exact Int.lt_succ _), by rw [o6 j j1]; exact j2, by rw [o6 j j1]; exact j3⟩)
    · have hz := oz z z2 q
      subst hz
      have e1 : (if V 0 10 = V 0 10 + 1 then 0 else g (V 0 10)) = 1 := by rw [g10 _ (Int.le_refl _)]; exact g1
      refine ⟨o7, ?_, ?_, Or.inr (Or.inr (Or.inr (Or.inl ⟨o4, e1, g11, Or.inl ⟨(V 0 11).toNat, hnat, by rw [o1]; exact ho, o2⟩⟩)))⟩
      · show 0 ≤ (if V 0 10 = V 0 10 + 1 then 0 else g (V 0 10)) ∧ (if V 0 10 = V 0 10 + 1 then 0 else g (V 0 10)) ≤ V 0 10 - f
        rw [e1]
        exact ⟨by decide, heb⟩
      · show 0 ≤ (if V 0 10 + 1 = V 0 10 + 1 then (0 : Int) else g (V 0 10 + 1)) ∧ (if V 0 10 + 1 = V 0 10 + 1 then (0 : Int) else g (V 0 10 + 1)) ≤ V 0 10 + 1 - f
        rw [g11]
        exact ⟨by decide, hC2⟩
theorem CI.typ {f d : Int} {V : Nat → Nat → Int} (h : CI f d 1 V) (h0 : V 0 11 = 0) : xTyp (V 5) 0 f (V 0 10) := by
  obtain ⟨a1, a2, a3, a4, a5, a6, a7, g, g0, g1, g2⟩ := h
  refine ⟨g, g0, fun z z1 z2 => ?_⟩
  obtain ⟨k1, k2, k3, k4⟩ := g2 z z1 z2
  refine ⟨k1, k2, k3, ?_⟩
  rcases k4 with q | q | q | ⟨q1, q2, q3, q4⟩ | q
  · exact Or.inl q
  · exact Or.inr (Or.inl q)
  · exact Or.inr (Or.inr (Or.inl q))
  · rcases q4 with ⟨j, j1, -⟩ | ⟨r1, r2, r3⟩
    · omega
    · refine Or.inr (Or.inr (Or.inr (Or.inl ⟨q1, by omega, by omega, by omega, by omega, ?_⟩)))
      rw [Int.zero_add, r3, q2]
  · exact Or.inr (Or.inr (Or.inr (Or.inr q)))
theorem psl.typ {c : Nat → Int} {a b : Int} (h : psl c a b 1) : xTyp c 0 a b := by
  obtain ⟨g, g0, g1, g2⟩ := h
  refine ⟨g, g0, fun z z1 z2 => ?_⟩
  obtain ⟨t1, t2, t3, t4, t5, t6⟩ := g2 z z1 z2
  refine ⟨t3, ⟨t4, t1⟩, ⟨t5, t2⟩, ?_⟩
  rcases t6 with q | q | q
  · exact Or.inl (by omega)
  · exact Or.inr (Or.inl (by omega))
  · exact Or.inr (Or.inr (Or.inr (Or.inr (by omega))))
theorem CI.tio {f d e : Int} {V : Nat → Nat → Int} (h : CI f d e V) : V 0 11 = 0 ∨ ¬ pio (V 6 (V 0 11 - 1).toNat) := by
  obtain ⟨a1, a2, a3, a4, a5, a6, a7, -⟩ := h
  by_cases q : V 0 11 = 0
  · exact Or.inl q
  · right
    have := a7 (V 0 11 - 1).toNat (by omega)
    unfold pen pjm at this
    unfold pio
    omega
