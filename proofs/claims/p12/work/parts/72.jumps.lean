section
-- jumps
theorem pcs.jump {h : Int → Int} {w : Nat → Int} {W f C z cz : Int} (k : pcs h w W f C z cz) (hj : pjm (cz / 1048576)) : h z = 1 ∧ h (z + 1) = 0 := by
  have h4 := k.2.2.2
  clear k
  unfold pjm at hj
  rcases h4 with q | q | q | q | q
  · exact absurd q.1 (by omega)
  · exact absurd q.1 (by omega)
  · exact absurd q.1 (by omega)
  · exact ⟨q.2.1, q.2.2.1⟩
  · exact absurd q.2.1 (by omega)
def plv (w x C : Int) : Prop := 0 ≤ w ∧ w / 1048576 = x / 1048576 ∧ w % 1048576 = C
theorem plv_m {x C : Int} (hx : 0 ≤ x) (hC : 0 ≤ C ∧ C ≤ 1048575) : plv (1048576 * (x / 1048576) + C) x C := by
  have hy : 0 ≤ x / 1048576 := Int.ediv_nonneg hx (by omega)
  unfold plv
  generalize x / 1048576 = y at hy ⊢
  exact ⟨by omega, by omega, by omega⟩
def pop2 (op : Int) : Prop := 0 ≤ 1048576 * op ∧ 1048576 * op / 1048576 = op ∧ 0 ≤ op ∧ op ≤ 14 ∧ ¬ op = 10
theorem pop2_m {op : Int} (h : pjm op) : pop2 op := by
  unfold pjm at h
  exact ⟨by omega, by omega, by omega, by omega, by omega⟩
/-- a jump that waits on top is landed here -/
theorem CI.land {f d : Int} {V u : Nat → Nat → Int} {q : Nat} {wd : Int} (h : CI f d 1 V) (h0 : 0 < V 0 11) (hC : V 0 10 ≤ 1048575) (hx : pjm (pdv (V 6 (V 0 11 - 1).toNat))) (hq : (q : Int) = prm (V 6 (V 0 11 - 1).toNat)) (hwd : wd = 1048576 * (V 5 q / 1048576) + V 0 10) (h5 : ∀ k : Nat, u 5 k = if k = q then wd else V 5 k) (h6 : u 6 = V 6) (h10 : u 0 10 = V 0 10) (h11 : u 0 11 = V 0 11 - 1) (hp : u 0 5 = V 0 5) : CI f d 1 u := by
  obtain ⟨a1, a2, a3, a4, a5, a6, a7, g, g0, g1, g2⟩ := h
  have r0 : f ≤ (q : Int) ∧ (q : Int) < V 0 10 ∧ pjm (V 5 q / 1048576) := by
    have k := a7 (V 0 11 - 1).toNat (by clear hwd; omega)
    unfold pen at k
    rw [← hq, Int.toNat_natCast] at k
    unfold pjm at hx k
    clear hwd
    rcases k with k | k | k
    · exact absurd k (by omega)
    · exact absurd k (by omega)
    · exact k.2
  obtain ⟨r1, r2, r3⟩ := r0
  have hcq : 0 ≤ V 5 q := by
    have := (g2 q r1 r2).1
    rw [Int.toNat_natCast] at this
    exact this
  have hv : plv wd (V 5 q) (V 0 10) := by rw [hwd]; exact plv_m hcq ⟨by clear hwd; omega, hC⟩
  clear hwd
  obtain ⟨v1, v2, v3⟩ := hv
  have n5 : ∀ k : Nat, k ≠ q → u 5 k = V 5 k := fun k hk => by rw [h5, if_neg hk]
  have n5q : u 5 q = wd := by rw [h5, if_pos rfl]
  have e1 : (V 0 11).toNat = (V 0 11 - 1).toNat + 1 := by clear v2 v3; omega
  have i1 : ∀ j : Nat, (j : Int) < u 0 11 → (j : Int) < V 0 11 := fun j hj => by rw [h11] at hj; clear v2 v3; omega
  have i2 : ∀ j : Nat, (j : Int) < V 0 11 → j ≠ (V 0 11 - 1).toNat → (j : Int) < u 0 11 := fun j hj hn => by rw [h11]; clear v2 v3; omega
  refine ⟨a1, by rw [h10]; exact a2, a3, ?_, by rw [h11]; clear v2 v3; omega, fun hh => by rw [h6]; exact a6 h0, fun j hj => ?_, g, g0, by rw [h10]; exact g1, fun z z1 z2 => ?_⟩
  · rw [e1, pnt] at a4
    rw [h10, h6, h11, hp]
    clear v2 v3
    split at a4 <;> omega
  · have k := a7 j (i1 j hj)
    unfold pen at k ⊢
    rw [h6, h10]
    rcases k with k | k | ⟨k1, k2, k3, k4⟩
    · exact Or.inl k
    · exact Or.inr (Or.inl k)
    · refine Or.inr (Or.inr ⟨k1, k2, k3, ?_⟩)
      by_cases w : (prm (V 6 j)).toNat = q
      · rw [w, n5q, v2]; exact r3
      · rw [n5 _ w]; exact k4
  · rw [h10] at z2
    have k := g2 z z1 z2
    by_cases w : z.toNat = q
    · rw [w] at k
      rw [w, n5q, h10]
      obtain ⟨b1, b2⟩ := k.jump r3
      refine ⟨v1, k.2.1, k.2.2.1, Or.inr (Or.inr (Or.inr (Or.inl ⟨by rw [v2]; exact r3, b1, b2, Or.inr ⟨?_, ?_, ?_⟩⟩)))⟩
      · rw [v3]; exact z2
      · rw [v3]; exact Int.le_refl _
      · rw [v3]; exact g1
    · rw [n5 _ w, h10]
      refine k.grow z2 (Int.le_refl _) (fun y _ => rfl) (fun j j1 j2 j3 => ⟨j, i2 j j1 (fun y => w ?_), by rw [h6]; exact j2, by rw [h6]; exact j3⟩)
      rw [y] at j3
      rw [← j3, ← hq, Int.toNat_natCast]
/-- a jump is noted and waits -/
theorem CI.jump {f d : Int} {V u : Nat → Nat → Int} {op : Int} (h : CI f d 1 V) (hC : V 0 10 ≤ 1048575) (hw0 : 0 < V 0 11) (ho : pjm op) (h5 : ∀ k : Nat, u 5 k = if k = (V 0 10).toNat then 1048576 * op else V 5 k) (h6 : ∀ k : Nat, u 6 k = if k = (V 0 11).toNat then 1048576 * op + V 0 10 else V 6 k) (h10 : u 0 10 = V 0 10 + 1) (h11 : u 0 11 = V 0 11 + 1) (hp : u 0 5 = V 0 5 + 1) : CI f d 0 u := by
  have o6 : ∀ j : Nat, (j : Int) < V 0 11 → u 6 j = V 6 j := fun j hj => by rw [h6, if_neg (by clear h h5 h6; omega)]
  have o5 : ∀ k : Nat, (k : Int) < V 0 10 → u 5 k = V 5 k := fun k hk => by rw [h5, if_neg (by clear h h5 h6; omega)]
  have on : u 6 (V 0 11).toNat = 1048576 * op + V 0 10 := by rw [h6, if_pos rfl]
  have o3 : u 5 (V 0 10).toNat = 1048576 * op := by rw [h5, if_pos rfl]
  clear h5 h6
  have heb := h.eb
  obtain ⟨a1, a2, a3, a4, a5, a6, a7, g, g0, g1, g2⟩ := h
  have hC0 : 0 ≤ V 0 10 := Int.le_trans a1 a2
  have oz : ∀ z : Int, z < u 0 10 → ¬ z < V 0 10 → z = V 0 10 := fun z z2 q => by clear on o3; omega
  have hjn : ∀ j : Nat, (j : Int) < u 0 11 → j ≠ (V 0 11).toNat → (j : Int) < V 0 11 := fun j h1 h2 => by clear on o3; omega
  have hle : V 0 10 ≤ u 0 10 := by clear on o3; omega
  have hfl : f ≤ u 0 10 := by clear on o3; omega
  have h11n : 0 ≤ u 0 11 := by clear on o3; omega
  have hnat : ((V 0 11).toNat : Int) < u 0 11 := by clear on o3; omega
  have hC1 : V 0 10 < u 0 10 := by clear on o3; omega
  have hC2 : 0 ≤ V 0 10 + 1 - f := by clear on o3; omega
  have htn : ∀ z : Int, 0 ≤ z → z < V 0 10 → ((z.toNat : Nat) : Int) < V 0 10 := fun z h1 h2 => by clear on o3; omega
  have g10 : ∀ y : Int, y ≤ V 0 10 → (if y = V 0 10 + 1 then 0 else g y) = g y := fun y hy => if_neg (by clear on o3; omega)
  have hsum : ∀ y : Int, y = pnt (V 6) (V 0 11).toNat → (V 0 10 + 1 : Int) + (y + 0) + d ≤ V 0 5 + 1 := fun y hy => by clear on o3; omega
  obtain ⟨m1, m2, m3, m4, m5⟩ := pop2_m ho
  have o1 : pdv (u 6 (V 0 11).toNat) = op := by rw [on]; exact pdv_m ⟨m3, m4⟩ ⟨hC0, hC⟩
  have o2 : prm (u 6 (V 0 11).toNat) = V 0 10 := by rw [on]; exact prm_m ⟨m3, m4⟩ ⟨hC0, hC⟩
  have o4 : pjm (u 5 (V 0 10).toNat / 1048576) := by rw [o3, m2]; exact ho
  have o7 : 0 ≤ u 5 (V 0 10).toNat := by rw [o3]; exact m1
  clear on o3 m1 m2
  have g11 : (if V 0 10 + 1 = V 0 10 + 1 then (0 : Int) else g (V 0 10 + 1)) = 0 := if_pos rfl
  have hfin : (V 0 10 + 1 : Int) + pnt (u 6) (V 0 11 + 1).toNat + d ≤ V 0 5 + 1 := by
    have e0 : (V 0 11 + 1).toNat = (V 0 11).toNat + 1 := by clear o1 o2 o4 o7 g11; omega
    rw [e0, pnt, pnt_c (w := V 6) _ (fun j hj => o6 j (by clear o1 o2 o4 o7 g11; omega)), o1, if_neg m5]
    exact hsum _ rfl
  refine ⟨a1, hfl, a3, by rw [h11, h10, hp]; exact hfin, h11n, fun hh => by rw [o6 0 hw0]; exact a6 hw0, fun j hj => ?_, fun z => if z = V 0 10 + 1 then 0 else g z, ?_, ?_, fun z z1 z2 => ?_⟩
  · by_cases q : j = (V 0 11).toNat
    · subst q
      unfold pen
      rw [o1, o2]
      exact Or.inr (Or.inr ⟨ho, a2, hC1, o4⟩)
    · exact (a7 j (hjn j hj q)).grow (o6 j (hjn j hj q)) hle o5 a1
  · show (if f = V 0 10 + 1 then 0 else g f) = 0
    rw [g10 f a2]; exact g0
  · show (if u 0 10 = V 0 10 + 1 then 0 else g (u 0 10)) = 0
    rw [if_pos h10]
  · by_cases q : z < V 0 10
    · rw [o5 z.toNat (htn z (Int.le_trans a1 z1) q)]
      exact (g2 z z1 q).grow q hle g10 (fun j j1 j2 j3 => ⟨j, Int.lt_trans j1 (by rw [h11]; exact Int.lt_succ _), by rw [o6 j j1]; exact j2, by rw [o6 j j1]; exact j3⟩)
    · have hz := oz z z2 q
      subst hz
      have e1 : (if V 0 10 = V 0 10 + 1 then 0 else g (V 0 10)) = 1 := by rw [g10 _ (Int.le_refl _)]; exact g1
      refine ⟨o7, ?_, ?_, Or.inr (Or.inr (Or.inr (Or.inl ⟨o4, e1, g11, Or.inl ⟨(V 0 11).toNat, hnat, by rw [o1]; exact ho, o2⟩⟩)))⟩
      · show 0 ≤ (if V 0 10 = V 0 10 + 1 then 0 else g (V 0 10)) ∧ (if V 0 10 = V 0 10 + 1 then 0 else g (V 0 10)) ≤ V 0 10 - f
        rw [e1]
        exact ⟨by decide, heb⟩
      · show 0 ≤ (if V 0 10 + 1 = V 0 10 + 1 then (0 : Int) else g (V 0 10 + 1)) ∧ (if V 0 10 + 1 = V 0 10 + 1 then (0 : Int) else g (V 0 10 + 1)) ≤ V 0 10 + 1 - f
        rw [g11]
        exact ⟨by decide, hC2⟩
theorem CI.typ {f d : Int} {V : Nat → Nat → Int} (h : CI f d 1 V) (h0 : V 0 11 = 0) : xTyp (V 5) 0 f (V 0 10) := by
  obtain ⟨a1, a2, a3, a4, a5, a6, a7, g, g0, g1, g2⟩ := h
  refine ⟨g, g0, fun z z1 z2 => ?_⟩
  obtain ⟨k1, k2, k3, k4⟩ := g2 z z1 z2
  refine ⟨k1, k2, k3, ?_⟩
  rcases k4 with q | q | q | ⟨q1, q2, q3, q4⟩ | q
  · exact Or.inl q
  · exact Or.inr (Or.inl q)
  · exact Or.inr (Or.inr (Or.inl q))
  · rcases q4 with ⟨j, j1, -⟩ | ⟨r1, r2, r3⟩
    · omega
    · refine Or.inr (Or.inr (Or.inr (Or.inl ⟨q1, by omega, by omega, by omega, by omega, ?_⟩)))
      rw [Int.zero_add, r3, q2]
  · exact Or.inr (Or.inr (Or.inr (Or.inr q)))
theorem psl.typ {c : Nat → Int} {a b : Int} (h : psl c a b 1) : xTyp c 0 a b := by
  obtain ⟨g, g0, g1, g2⟩ := h
  refine ⟨g, g0, fun z z1 z2 => ?_⟩
  obtain ⟨t1, t2, t3, t4, t5, t6⟩ := g2 z z1 z2
  refine ⟨t3, ⟨t4, t1⟩, ⟨t5, t2⟩, ?_⟩
  rcases t6 with q | q | q
  · exact Or.inl (by omega)
  · exact Or.inr (Or.inl (by omega))
  · exact Or.inr (Or.inr (Or.inr (Or.inr (by omega))))
theorem CI.tio {f d e : Int} {V : Nat → Nat → Int} (h : CI f d e V) : V 0 11 = 0 ∨ ¬ pio (V 6 (V 0 11 - 1).toNat) := by
  obtain ⟨a1, a2, a3, a4, a5, a6, a7, -⟩ := h
  by_cases q : V 0 11 = 0
  · exact Or.inl q
  · right
    have := a7 (V 0 11 - 1).toNat (by omega)
    unfold pen pjm at this
    unfold pio
    omega
end
section
-- reading: steps of several writes at once
theorem hrM_8 {V u : Nat → Nat → Int} {a : Int} (h : u = up2 V 0 8 a) : hrM u = hrM V := by
  subst h
  unfold hrM
  rw [up0 (Or.inr (by omega)), up0 (Or.inr (by omega)), up0r (by omega)]
end
section
theorem dX12_factOf_0 : decode cX12_factOf 0 = .ok (.iload_n 0, 1) := by decide +kernel
theorem dX12_factOf_1 : decode cX12_factOf 1 = .ok (.tableswitch 152 97 122 #[146, 152, 152, 119, 152, 127, 152, 152, 152, 152, 152, 123, 152, 143, 125, 137, 149, 152, 129, 140, 152, 152, 121, 152, 131, 134], 119) := by decide +kernel
theorem dX12_factOf_120 : decode cX12_factOf 120 = .ok (.iconst 0, 1) := by decide +kernel
theorem dX12_factOf_121 : decode cX12_factOf 121 = .ok (.ireturn, 1) := by decide +kernel
theorem dX12_factOf_122 : decode cX12_factOf 122 = .ok (.iconst 1, 1) := by decide +kernel
theorem dX12_factOf_123 : decode cX12_factOf 123 = .ok (.ireturn, 1) := by decide +kernel
theorem dX12_factOf_124 : decode cX12_factOf 124 = .ok (.iconst 2, 1) := by decide +kernel
theorem dX12_factOf_125 : decode cX12_factOf 125 = .ok (.ireturn, 1) := by decide +kernel
theorem dX12_factOf_126 : decode cX12_factOf 126 = .ok (.iconst 3, 1) := by decide +kernel
theorem dX12_factOf_127 : decode cX12_factOf 127 = .ok (.ireturn, 1) := by decide +kernel
theorem dX12_factOf_128 : decode cX12_factOf 128 = .ok (.iconst 4, 1) := by decide +kernel
theorem dX12_factOf_129 : decode cX12_factOf 129 = .ok (.ireturn, 1) := by decide +kernel
theorem dX12_factOf_130 : decode cX12_factOf 130 = .ok (.iconst 5, 1) := by decide +kernel
theorem dX12_factOf_131 : decode cX12_factOf 131 = .ok (.ireturn, 1) := by decide +kernel
theorem dX12_factOf_132 : decode cX12_factOf 132 = .ok (.bipush 6, 2) := by decide +kernel
theorem dX12_factOf_134 : decode cX12_factOf 134 = .ok (.ireturn, 1) := by decide +kernel
theorem dX12_factOf_135 : decode cX12_factOf 135 = .ok (.bipush 7, 2) := by decide +kernel
theorem dX12_factOf_137 : decode cX12_factOf 137 = .ok (.ireturn, 1) := by decide +kernel
theorem dX12_factOf_138 : decode cX12_factOf 138 = .ok (.bipush 8, 2) := by decide +kernel
theorem dX12_factOf_140 : decode cX12_factOf 140 = .ok (.ireturn, 1) := by decide +kernel
theorem dX12_factOf_141 : decode cX12_factOf 141 = .ok (.bipush 9, 2) := by decide +kernel
theorem dX12_factOf_143 : decode cX12_factOf 143 = .ok (.ireturn, 1) := by decide +kernel
theorem dX12_factOf_144 : decode cX12_factOf 144 = .ok (.bipush 10, 2) := by decide +kernel
theorem dX12_factOf_146 : decode cX12_factOf 146 = .ok (.ireturn, 1) := by decide +kernel
theorem dX12_factOf_147 : decode cX12_factOf 147 = .ok (.bipush 11, 2) := by decide +kernel
theorem dX12_factOf_149 : decode cX12_factOf 149 = .ok (.ireturn, 1) := by decide +kernel
theorem dX12_factOf_150 : decode cX12_factOf 150 = .ok (.bipush 12, 2) := by decide +kernel
theorem dX12_factOf_152 : decode cX12_factOf 152 = .ok (.ireturn, 1) := by decide +kernel
theorem dX12_factOf_153 : decode cX12_factOf 153 = .ok (.iconst (-1), 1) := by decide +kernel
theorem dX12_factOf_154 : decode cX12_factOf 154 = .ok (.ireturn, 1) := by decide +kernel
set_option maxRecDepth 100000 in
def f_m_factOf (x0 : Int) : (Int) → Prop :=
  (if x0 = 97 then rtn 11 else (if x0 = 98 then rtn ((-1)) else (if x0 = 99 then rtn ((-1)) else (if x0 = 100 then rtn 0 else (if x0 = 101 then rtn ((-1)) else (if x0 = 102 then rtn 4 else (if x0 = 103 then rtn ((-1)) else (if x0 = 104 then rtn ((-1)) else (if x0 = 105 then rtn ((-1)) else (if x0 = 106 then rtn ((-1)) else (if x0 = 107 then rtn ((-1)) else (if x0 = 108 then rtn 2 else (if x0 = 109 then rtn ((-1)) else (if x0 = 110 then rtn 10 else (if x0 = 111 then rtn 3 else (if x0 = 112 then rtn 8 else (if x0 = 113 then rtn 12 else (if x0 = 114 then rtn ((-1)) else (if x0 = 115 then rtn 5 else (if x0 = 116 then rtn 9 else (if x0 = 117 then rtn ((-1)) else (if x0 = 118 then rtn ((-1)) else (if x0 = 119 then rtn 1 else (if x0 = 120 then rtn ((-1)) else (if x0 = 121 then rtn 6 else (if x0 = 122 then rtn 7 else rtn ((-1))))))))))))))))))))))))))))
set_option maxHeartbeats 8000000 in
set_option maxRecDepth 100000 in
theorem m_factOf (l : Launch) (D : va_G) (cy : Nat → ClassId) (x0 : Int) (bx0 : -2147483648 ≤ x0 ∧ x0 ≤ 2147483647) : xMi l D (xTY cy) yX12_factOf cX12_factOf 1 (some .int) 0 0 0 0 [vI x0] [] (fun _ : Unit => []) (fun a (u : Unit) => (-1 ≤ a ∧ a ≤ 12) ∧ (a = -1 ∨ 0 ≤ x0) ∧ (f_m_factOf x0) a) := by
  refine xMi.mk (lv0 := [(0, vI x0)]) (by decide) rfl (Nat.le_of_ble_eq_true rfl) (fun p e s m below meth c A C hr hnm hAe => ?_)
  have C : xC2 p s m _ meth c D A s.heap 1 cX12_factOf RX12 (xTY cy) := C
  have hF := Imp.of_eq (f_m_factOf.eq_def x0)
  refine x_iload_n C.1 dX12_factOf_0 0 rfl ?_
  by_cases hs1 : x0 = 97
  · replace hF := hF.to (if_pos hs1)
    refine x_tabIn C.1 97 hs1 (by decide) (tgt := 147) dX12_factOf_1 (by decide) (by decide) rfl (by decide) ?_
    refine x_bipush C.1 (n := 11) dX12_factOf_147 ?_
    exact x_iret (S := Unit) (post := (fun a (u : Unit) => (-1 ≤ a ∧ a ≤ 12) ∧ (a = -1 ∨ 0 ≤ x0) ∧ (f_m_factOf x0) a)) (w1 := (fun _ : Unit => [])) (a := 11) C hr rfl dX12_factOf_149 (by decide) () rfl ⟨⟨by decide, by decide⟩, (by omega), hF _ rfl⟩
  replace hF := hF.to (if_neg hs1)
  by_cases hs2 : x0 = 98
  · replace hF := hF.to (if_pos hs2)
    refine x_tabIn C.1 98 hs2 (by decide) (tgt := 153) dX12_factOf_1 (by decide) (by decide) rfl (by decide) ?_
    refine x_iconst C.1 (n := -1) dX12_factOf_153 ?_
    exact x_iret (S := Unit) (post := (fun a (u : Unit) => (-1 ≤ a ∧ a ≤ 12) ∧ (a = -1 ∨ 0 ≤ x0) ∧ (f_m_factOf x0) a)) (w1 := (fun _ : Unit => [])) (a := (-1)) C hr rfl dX12_factOf_154 (by decide) () rfl ⟨⟨by decide, by decide⟩, (by omega), hF _ rfl⟩
  replace hF := hF.to (if_neg hs2)
  by_cases hs3 : x0 = 99
  · replace hF := hF.to (if_pos hs3)
    refine x_tabIn C.1 99 hs3 (by decide) (tgt := 153) dX12_factOf_1 (by decide) (by decide) rfl (by decide) ?_
    refine x_iconst C.1 (n := -1) dX12_factOf_153 ?_
    exact x_iret (S := Unit) (post := (fun a (u : Unit) => (-1 ≤ a ∧ a ≤ 12) ∧ (a = -1 ∨ 0 ≤ x0) ∧ (f_m_factOf x0) a)) (w1 := (fun _ : Unit => [])) (a := (-1)) C hr rfl dX12_factOf_154 (by decide) () rfl ⟨⟨by decide, by decide⟩, (by omega), hF _ rfl⟩
  replace hF := hF.to (if_neg hs3)
  by_cases hs4 : x0 = 100
  · replace hF := hF.to (if_pos hs4)
    refine x_tabIn C.1 100 hs4 (by decide) (tgt := 120) dX12_factOf_1 (by decide) (by decide) rfl (by decide) ?_
    refine x_iconst C.1 (n := 0) dX12_factOf_120 ?_
    exact x_iret (S := Unit) (post := (fun a (u : Unit) => (-1 ≤ a ∧ a ≤ 12) ∧ (a = -1 ∨ 0 ≤ x0) ∧ (f_m_factOf x0) a)) (w1 := (fun _ : Unit => [])) (a := 0) C hr rfl dX12_factOf_121 (by decide) () rfl ⟨⟨by decide, by decide⟩, (by omega), hF _ rfl⟩
  replace hF := hF.to (if_neg hs4)
  by_cases hs5 : x0 = 101
  · replace hF := hF.to (if_pos hs5)
    refine x_tabIn C.1 101 hs5 (by decide) (tgt := 153) dX12_factOf_1 (by decide) (by decide) rfl (by decide) ?_
    refine x_iconst C.1 (n := -1) dX12_factOf_153 ?_
    exact x_iret (S := Unit) (post := (fun a (u : Unit) => (-1 ≤ a ∧ a ≤ 12) ∧ (a = -1 ∨ 0 ≤ x0) ∧ (f_m_factOf x0) a)) (w1 := (fun _ : Unit => [])) (a := (-1)) C hr rfl dX12_factOf_154 (by decide) () rfl ⟨⟨by decide, by decide⟩, (by omega), hF _ rfl⟩
  replace hF := hF.to (if_neg hs5)
  by_cases hs6 : x0 = 102
  · replace hF := hF.to (if_pos hs6)
    refine x_tabIn C.1 102 hs6 (by decide) (tgt := 128) dX12_factOf_1 (by decide) (by decide) rfl (by decide) ?_
    refine x_iconst C.1 (n := 4) dX12_factOf_128 ?_
    exact x_iret (S := Unit) (post := (fun a (u : Unit) => (-1 ≤ a ∧ a ≤ 12) ∧ (a = -1 ∨ 0 ≤ x0) ∧ (f_m_factOf x0) a)) (w1 := (fun _ : Unit => [])) (a := 4) C hr rfl dX12_factOf_129 (by decide) () rfl ⟨⟨by decide, by decide⟩, (by omega), hF _ rfl⟩
  replace hF := hF.to (if_neg hs6)
  by_cases hs7 : x0 = 103
  · replace hF := hF.to (if_pos hs7)
    refine x_tabIn C.1 103 hs7 (by decide) (tgt := 153) dX12_factOf_1 (by decide) (by decide) rfl (by decide) ?_
    refine x_iconst C.1 (n := -1) dX12_factOf_153 ?_
    exact x_iret (S := Unit) (post := (fun a (u : Unit) => (-1 ≤ a ∧ a ≤ 12) ∧ (a = -1 ∨ 0 ≤ x0) ∧ (f_m_factOf x0) a)) (w1 := (fun _ : Unit => [])) (a := (-1)) C hr rfl dX12_factOf_154 (by decide) () rfl ⟨⟨by decide, by decide⟩, (by omega), hF _ rfl⟩
  replace hF := hF.to (if_neg hs7)
  by_cases hs8 : x0 = 104
  · replace hF := hF.to (if_pos hs8)
    refine x_tabIn C.1 104 hs8 (by decide) (tgt := 153) dX12_factOf_1 (by decide) (by decide) rfl (by decide) ?_
    refine x_iconst C.1 (n := -1) dX12_factOf_153 ?_
    exact x_iret (S := Unit) (post := (fun a (u : Unit) => (-1 ≤ a ∧ a ≤ 12) ∧ (a = -1 ∨ 0 ≤ x0) ∧ (f_m_factOf x0) a)) (w1 := (fun _ : Unit => [])) (a := (-1)) C hr rfl dX12_factOf_154 (by decide) () rfl ⟨⟨by decide, by decide⟩, (by omega), hF _ rfl⟩
  replace hF := hF.to (if_neg hs8)
  by_cases hs9 : x0 = 105
  · replace hF := hF.to (if_pos hs9)
    refine x_tabIn C.1 105 hs9 (by decide) (tgt := 153) dX12_factOf_1 (by decide) (by decide) rfl (by decide) ?_
    refine x_iconst C.1 (n := -1) dX12_factOf_153 ?_
    exact x_iret (S := Unit) (post := (fun a (u : Unit) => (-1 ≤ a ∧ a ≤ 12) ∧ (a = -1 ∨ 0 ≤ x0) ∧ (f_m_factOf x0) a)) (w1 := (fun _ : Unit => [])) (a := (-1)) C hr rfl dX12_factOf_154 (by decide) () rfl ⟨⟨by decide, by decide⟩, (by omega), hF _ rfl⟩
  replace hF := hF.to (if_neg hs9)
  by_cases hs10 : x0 = 106
  · replace hF := hF.to (if_pos hs10)
    refine x_tabIn C.1 106 hs10 (by decide) (tgt := 153) dX12_factOf_1 (by decide) (by decide) rfl (by decide) ?_
    refine x_iconst C.1 (n := -1) dX12_factOf_153 ?_
    exact x_iret (S := Unit) (post := (fun a (u : Unit) => (-1 ≤ a ∧ a ≤ 12) ∧ (a = -1 ∨ 0 ≤ x0) ∧ (f_m_factOf x0) a)) (w1 := (fun _ : Unit => [])) (a := (-1)) C hr rfl dX12_factOf_154 (by decide) () rfl ⟨⟨by decide, by decide⟩, (by omega), hF _ rfl⟩
  replace hF := hF.to (if_neg hs10)
  by_cases hs11 : x0 = 107
  · replace hF := hF.to (if_pos hs11)
    refine x_tabIn C.1 107 hs11 (by decide) (tgt := 153) dX12_factOf_1 (by decide) (by decide) rfl (by decide) ?_
    refine x_iconst C.1 (n := -1) dX12_factOf_153 ?_
    exact x_iret (S := Unit) (post := (fun a (u : Unit) => (-1 ≤ a ∧ a ≤ 12) ∧ (a = -1 ∨ 0 ≤ x0) ∧ (f_m_factOf x0) a)) (w1 := (fun _ : Unit => [])) (a := (-1)) C hr rfl dX12_factOf_154 (by decide) () rfl ⟨⟨by decide, by decide⟩, (by omega), hF _ rfl⟩
  replace hF := hF.to (if_neg hs11)
  by_cases hs12 : x0 = 108
  · replace hF := hF.to (if_pos hs12)
    refine x_tabIn C.1 108 hs12 (by decide) (tgt := 124) dX12_factOf_1 (by decide) (by decide) rfl (by decide) ?_
    refine x_iconst C.1 (n := 2) dX12_factOf_124 ?_
    exact x_iret (S := Unit) (post := (fun a (u : Unit) => (-1 ≤ a ∧ a ≤ 12) ∧ (a = -1 ∨ 0 ≤ x0) ∧ (f_m_factOf x0) a)) (w1 := (fun _ : Unit => [])) (a := 2) C hr rfl dX12_factOf_125 (by decide) () rfl ⟨⟨by decide, by decide⟩, (by omega), hF _ rfl⟩
  replace hF := hF.to (if_neg hs12)
  by_cases hs13 : x0 = 109
  · replace hF := hF.to (if_pos hs13)
    refine x_tabIn C.1 109 hs13 (by decide) (tgt := 153) dX12_factOf_1 (by decide) (by decide) rfl (by decide) ?_
    refine x_iconst C.1 (n := -1) dX12_factOf_153 ?_
    exact x_iret (S := Unit) (post := (fun a (u : Unit) => (-1 ≤ a ∧ a ≤ 12) ∧ (a = -1 ∨ 0 ≤ x0) ∧ (f_m_factOf x0) a)) (w1 := (fun _ : Unit => [])) (a := (-1)) C hr rfl dX12_factOf_154 (by decide) () rfl ⟨⟨by decide, by decide⟩, (by omega), hF _ rfl⟩
  replace hF := hF.to (if_neg hs13)
  by_cases hs14 : x0 = 110
  · replace hF := hF.to (if_pos hs14)
    refine x_tabIn C.1 110 hs14 (by decide) (tgt := 144) dX12_factOf_1 (by decide) (by decide) rfl (by decide) ?_
    refine x_bipush C.1 (n := 10) dX12_factOf_144 ?_
    exact x_iret (S := Unit) (post := (fun a (u : Unit) => (-1 ≤ a ∧ a ≤ 12) ∧ (a = -1 ∨ 0 ≤ x0) ∧ (f_m_factOf x0) a)) (w1 := (fun _ : Unit => [])) (a := 10) C hr rfl dX12_factOf_146 (by decide) () rfl ⟨⟨by decide, by decide⟩, (by omega), hF _ rfl⟩
  replace hF := hF.to (if_neg hs14)
  by_cases hs15 : x0 = 111
  · replace hF := hF.to (if_pos hs15)
    refine x_tabIn C.1 111 hs15 (by decide) (tgt := 126) dX12_factOf_1 (by decide) (by decide) rfl (by decide) ?_
    refine x_iconst C.1 (n := 3) dX12_factOf_126 ?_
    exact x_iret (S := Unit) (post := (fun a (u : Unit) => (-1 ≤ a ∧ a ≤ 12) ∧ (a = -1 ∨ 0 ≤ x0) ∧ (f_m_factOf x0) a)) (w1 := (fun _ : Unit => [])) (a := 3) C hr rfl dX12_factOf_127 (by decide) () rfl ⟨⟨by decide, by decide⟩, (by omega), hF _ rfl⟩
  replace hF := hF.to (if_neg hs15)
  by_cases hs16 : x0 = 112
  · replace hF := hF.to (if_pos hs16)
    refine x_tabIn C.1 112 hs16 (by decide) (tgt := 138) dX12_factOf_1 (by decide) (by decide) rfl (by decide) ?_
    refine x_bipush C.1 (n := 8) dX12_factOf_138 ?_
    exact x_iret (S := Unit) (post := (fun a (u : Unit) => (-1 ≤ a ∧ a ≤ 12) ∧ (a = -1 ∨ 0 ≤ x0) ∧ (f_m_factOf x0) a)) (w1 := (fun _ : Unit => [])) (a := 8) C hr rfl dX12_factOf_140 (by decide) () rfl ⟨⟨by decide, by decide⟩, (by omega), hF _ rfl⟩
  replace hF := hF.to (if_neg hs16)
  by_cases hs17 : x0 = 113
  · replace hF := hF.to (if_pos hs17)
    refine x_tabIn C.1 113 hs17 (by decide) (tgt := 150) dX12_factOf_1 (by decide) (by decide) rfl (by decide) ?_
    refine x_bipush C.1 (n := 12) dX12_factOf_150 ?_
    exact x_iret (S := Unit) (post := (fun a (u : Unit) => (-1 ≤ a ∧ a ≤ 12) ∧ (a = -1 ∨ 0 ≤ x0) ∧ (f_m_factOf x0) a)) (w1 := (fun _ : Unit => [])) (a := 12) C hr rfl dX12_factOf_152 (by decide) () rfl ⟨⟨by decide, by decide⟩, (by omega), hF _ rfl⟩
  replace hF := hF.to (if_neg hs17)
  by_cases hs18 : x0 = 114
  · replace hF := hF.to (if_pos hs18)
    refine x_tabIn C.1 114 hs18 (by decide) (tgt := 153) dX12_factOf_1 (by decide) (by decide) rfl (by decide) ?_
    refine x_iconst C.1 (n := -1) dX12_factOf_153 ?_
    exact x_iret (S := Unit) (post := (fun a (u : Unit) => (-1 ≤ a ∧ a ≤ 12) ∧ (a = -1 ∨ 0 ≤ x0) ∧ (f_m_factOf x0) a)) (w1 := (fun _ : Unit => [])) (a := (-1)) C hr rfl dX12_factOf_154 (by decide) () rfl ⟨⟨by decide, by decide⟩, (by omega), hF _ rfl⟩
  replace hF := hF.to (if_neg hs18)
  by_cases hs19 : x0 = 115
  · replace hF := hF.to (if_pos hs19)
    refine x_tabIn C.1 115 hs19 (by decide) (tgt := 130) dX12_factOf_1 (by decide) (by decide) rfl (by decide) ?_
    refine x_iconst C.1 (n := 5) dX12_factOf_130 ?_
    exact x_iret (S := Unit) (post := (fun a (u : Unit) => (-1 ≤ a ∧ a ≤ 12) ∧ (a = -1 ∨ 0 ≤ x0) ∧ (f_m_factOf x0) a)) (w1 := (fun _ : Unit => [])) (a := 5) C hr rfl dX12_factOf_131 (by decide) () rfl ⟨⟨by decide, by decide⟩, (by omega), hF _ rfl⟩
  replace hF := hF.to (if_neg hs19)
  by_cases hs20 : x0 = 116
  · replace hF := hF.to (if_pos hs20)
    refine x_tabIn C.1 116 hs20 (by decide) (tgt := 141) dX12_factOf_1 (by decide) (by decide) rfl (by decide) ?_
    refine x_bipush C.1 (n := 9) dX12_factOf_141 ?_
    exact x_iret (S := Unit) (post := (fun a (u : Unit) => (-1 ≤ a ∧ a ≤ 12) ∧ (a = -1 ∨ 0 ≤ x0) ∧ (f_m_factOf x0) a)) (w1 := (fun _ : Unit => [])) (a := 9) C hr rfl dX12_factOf_143 (by decide) () rfl ⟨⟨by decide, by decide⟩, (by omega), hF _ rfl⟩
  replace hF := hF.to (if_neg hs20)
  by_cases hs21 : x0 = 117
  · replace hF := hF.to (if_pos hs21)
    refine x_tabIn C.1 117 hs21 (by decide) (tgt := 153) dX12_factOf_1 (by decide) (by decide) rfl (by decide) ?_
    refine x_iconst C.1 (n := -1) dX12_factOf_153 ?_
    exact x_iret (S := Unit) (post := (fun a (u : Unit) => (-1 ≤ a ∧ a ≤ 12) ∧ (a = -1 ∨ 0 ≤ x0) ∧ (f_m_factOf x0) a)) (w1 := (fun _ : Unit => [])) (a := (-1)) C hr rfl dX12_factOf_154 (by decide) () rfl ⟨⟨by decide, by decide⟩, (by omega), hF _ rfl⟩
  replace hF := hF.to (if_neg hs21)
  by_cases hs22 : x0 = 118
  · replace hF := hF.to (if_pos hs22)
    refine x_tabIn C.1 118 hs22 (by decide) (tgt := 153) dX12_factOf_1 (by decide) (by decide) rfl (by decide) ?_
    refine x_iconst C.1 (n := -1) dX12_factOf_153 ?_
    exact x_iret (S := Unit) (post := (fun a (u : Unit) => (-1 ≤ a ∧ a ≤ 12) ∧ (a = -1 ∨ 0 ≤ x0) ∧ (f_m_factOf x0) a)) (w1 := (fun _ : Unit => [])) (a := (-1)) C hr rfl dX12_factOf_154 (by decide) () rfl ⟨⟨by decide, by decide⟩, (by omega), hF _ rfl⟩
  replace hF := hF.to (if_neg hs22)
  by_cases hs23 : x0 = 119
  · replace hF := hF.to (if_pos hs23)
    refine x_tabIn C.1 119 hs23 (by decide) (tgt := 122) dX12_factOf_1 (by decide) (by decide) rfl (by decide) ?_
    refine x_iconst C.1 (n := 1) dX12_factOf_122 ?_
    exact x_iret (S := Unit) (post := (fun a (u : Unit) => (-1 ≤ a ∧ a ≤ 12) ∧ (a = -1 ∨ 0 ≤ x0) ∧ (f_m_factOf x0) a)) (w1 := (fun _ : Unit => [])) (a := 1) C hr rfl dX12_factOf_123 (by decide) () rfl ⟨⟨by decide, by decide⟩, (by omega), hF _ rfl⟩
  replace hF := hF.to (if_neg hs23)
  by_cases hs24 : x0 = 120
  · replace hF := hF.to (if_pos hs24)
    refine x_tabIn C.1 120 hs24 (by decide) (tgt := 153) dX12_factOf_1 (by decide) (by decide) rfl (by decide) ?_
    refine x_iconst C.1 (n := -1) dX12_factOf_153 ?_
    exact x_iret (S := Unit) (post := (fun a (u : Unit) => (-1 ≤ a ∧ a ≤ 12) ∧ (a = -1 ∨ 0 ≤ x0) ∧ (f_m_factOf x0) a)) (w1 := (fun _ : Unit => [])) (a := (-1)) C hr rfl dX12_factOf_154 (by decide) () rfl ⟨⟨by decide, by decide⟩, (by omega), hF _ rfl⟩
  replace hF := hF.to (if_neg hs24)
  by_cases hs25 : x0 = 121
  · replace hF := hF.to (if_pos hs25)
    refine x_tabIn C.1 121 hs25 (by decide) (tgt := 132) dX12_factOf_1 (by decide) (by decide) rfl (by decide) ?_
    refine x_bipush C.1 (n := 6) dX12_factOf_132 ?_
    exact x_iret (S := Unit) (post := (fun a (u : Unit) => (-1 ≤ a ∧ a ≤ 12) ∧ (a = -1 ∨ 0 ≤ x0) ∧ (f_m_factOf x0) a)) (w1 := (fun _ : Unit => [])) (a := 6) C hr rfl dX12_factOf_134 (by decide) () rfl ⟨⟨by decide, by decide⟩, (by omega), hF _ rfl⟩
  replace hF := hF.to (if_neg hs25)
  by_cases hs26 : x0 = 122
  · replace hF := hF.to (if_pos hs26)
    refine x_tabIn C.1 122 hs26 (by decide) (tgt := 135) dX12_factOf_1 (by decide) (by decide) rfl (by decide) ?_
    refine x_bipush C.1 (n := 7) dX12_factOf_135 ?_
    exact x_iret (S := Unit) (post := (fun a (u : Unit) => (-1 ≤ a ∧ a ≤ 12) ∧ (a = -1 ∨ 0 ≤ x0) ∧ (f_m_factOf x0) a)) (w1 := (fun _ : Unit => [])) (a := 7) C hr rfl dX12_factOf_137 (by decide) () rfl ⟨⟨by decide, by decide⟩, (by omega), hF _ rfl⟩
  replace hF := hF.to (if_neg hs26)
  refine x_tabOut C.1 (tgt := 153) (by omega) dX12_factOf_1 (by omega) (by decide) ?_
  refine x_iconst C.1 (n := -1) dX12_factOf_153 ?_
  exact x_iret (S := Unit) (post := (fun a (u : Unit) => (-1 ≤ a ∧ a ≤ 12) ∧ (a = -1 ∨ 0 ≤ x0) ∧ (f_m_factOf x0) a)) (w1 := (fun _ : Unit => [])) (a := (-1)) C hr rfl dX12_factOf_154 (by decide) () rfl ⟨⟨by decide, by decide⟩, (by omega), hF _ rfl⟩
theorem dX12_sumSign_0 : decode cX12_sumSign 0 = .ok (.iload_n 0, 1) := by decide +kernel
theorem dX12_sumSign_1 : decode cX12_sumSign 1 = .ok (.bipush 43, 2) := by decide +kernel
theorem dX12_sumSign_3 : decode cX12_sumSign 3 = .ok (.if_icmp .ne 7, 3) := by decide +kernel
theorem dX12_sumSign_6 : decode cX12_sumSign 6 = .ok (.iconst 2, 1) := by decide +kernel
theorem dX12_sumSign_7 : decode cX12_sumSign 7 = .ok (.goto 45, 3) := by decide +kernel
theorem dX12_sumSign_10 : decode cX12_sumSign 10 = .ok (.iload_n 0, 1) := by decide +kernel
theorem dX12_sumSign_11 : decode cX12_sumSign 11 = .ok (.bipush 45, 2) := by decide +kernel
theorem dX12_sumSign_13 : decode cX12_sumSign 13 = .ok (.if_icmp .ne 7, 3) := by decide +kernel
theorem dX12_sumSign_16 : decode cX12_sumSign 16 = .ok (.iconst 3, 1) := by decide +kernel
theorem dX12_sumSign_17 : decode cX12_sumSign 17 = .ok (.goto 35, 3) := by decide +kernel
theorem dX12_sumSign_20 : decode cX12_sumSign 20 = .ok (.iload_n 0, 1) := by decide +kernel
theorem dX12_sumSign_21 : decode cX12_sumSign 21 = .ok (.bipush 42, 2) := by decide +kernel
theorem dX12_sumSign_23 : decode cX12_sumSign 23 = .ok (.if_icmp .ne 7, 3) := by decide +kernel
theorem dX12_sumSign_26 : decode cX12_sumSign 26 = .ok (.iconst 4, 1) := by decide +kernel
theorem dX12_sumSign_27 : decode cX12_sumSign 27 = .ok (.goto 25, 3) := by decide +kernel
theorem dX12_sumSign_30 : decode cX12_sumSign 30 = .ok (.iload_n 0, 1) := by decide +kernel
theorem dX12_sumSign_31 : decode cX12_sumSign 31 = .ok (.bipush 47, 2) := by decide +kernel
theorem dX12_sumSign_33 : decode cX12_sumSign 33 = .ok (.if_icmp .ne 7, 3) := by decide +kernel
theorem dX12_sumSign_36 : decode cX12_sumSign 36 = .ok (.iconst 5, 1) := by decide +kernel
theorem dX12_sumSign_37 : decode cX12_sumSign 37 = .ok (.goto 15, 3) := by decide +kernel
theorem dX12_sumSign_40 : decode cX12_sumSign 40 = .ok (.iload_n 0, 1) := by decide +kernel
theorem dX12_sumSign_41 : decode cX12_sumSign 41 = .ok (.bipush 37, 2) := by decide +kernel
theorem dX12_sumSign_43 : decode cX12_sumSign 43 = .ok (.if_icmp .ne 8, 3) := by decide +kernel
theorem dX12_sumSign_46 : decode cX12_sumSign 46 = .ok (.bipush 6, 2) := by decide +kernel
theorem dX12_sumSign_48 : decode cX12_sumSign 48 = .ok (.goto 4, 3) := by decide +kernel
theorem dX12_sumSign_51 : decode cX12_sumSign 51 = .ok (.iconst (-1), 1) := by decide +kernel
theorem dX12_sumSign_52 : decode cX12_sumSign 52 = .ok (.ireturn, 1) := by decide +kernel
set_option maxRecDepth 100000 in
def f_m_sumSign (x0 : Int) : (Int) → Prop :=
  (if ¬ x0 = 43 then (if ¬ x0 = 45 then (if ¬ x0 = 42 then (if ¬ x0 = 47 then (if ¬ x0 = 37 then rtn ((-1)) else rtn 6) else rtn 5) else rtn 4) else rtn 3) else rtn 2)
set_option maxHeartbeats 8000000 in
set_option maxRecDepth 100000 in
theorem m_sumSign (l : Launch) (D : va_G) (cy : Nat → ClassId) (x0 : Int) (bx0 : -2147483648 ≤ x0 ∧ x0 ≤ 2147483647) : xMi l D (xTY cy) yX12_sumSign cX12_sumSign 1 (some .int) 0 0 0 0 [vI x0] [] (fun _ : Unit => []) (fun a (u : Unit) => (-1 ≤ a ∧ a ≤ 6) ∧ (a = -1 ∨ (2 ≤ a ∧ a ≤ 6 ∧ 0 ≤ x0)) ∧ (f_m_sumSign x0) a) := by
  refine xMi.mk (lv0 := [(0, vI x0)]) (by decide) rfl (Nat.le_of_ble_eq_true rfl) (fun p e s m below meth c A C hr hnm hAe => ?_)
  have C : xC2 p s m _ meth c D A s.heap 1 cX12_sumSign RX12 (xTY cy) := C
  have hF := Imp.of_eq (f_m_sumSign.eq_def x0)
  refine x_iload_n C.1 dX12_sumSign_0 0 rfl ?_
  refine x_bipush C.1 (n := 43) dX12_sumSign_1 ?_
  refine x_icmp_ne C.1 (tgt := 10) dX12_sumSign_3 (by decide) (by omega) (by decide) (fun hc1 => ?_) (fun hc1 => ?_)
  · replace hF := hF.to (if_pos hc1)
    refine x_iload_n C.1 dX12_sumSign_10 0 rfl ?_
    refine x_bipush C.1 (n := 45) dX12_sumSign_11 ?_
    refine x_icmp_ne C.1 (tgt := 20) dX12_sumSign_13 (by decide) (by omega) (by decide) (fun hc2 => ?_) (fun hc2 => ?_)
    · replace hF := hF.to (if_pos hc2)
      refine x_iload_n C.1 dX12_sumSign_20 0 rfl ?_
      refine x_bipush C.1 (n := 42) dX12_sumSign_21 ?_
      refine x_icmp_ne C.1 (tgt := 30) dX12_sumSign_23 (by decide) (by omega) (by decide) (fun hc3 => ?_) (fun hc3 => ?_)
      · replace hF := hF.to (if_pos hc3)
        refine x_iload_n C.1 dX12_sumSign_30 0 rfl ?_
        refine x_bipush C.1 (n := 47) dX12_sumSign_31 ?_
        refine x_icmp_ne C.1 (tgt := 40) dX12_sumSign_33 (by decide) (by omega) (by decide) (fun hc4 => ?_) (fun hc4 => ?_)
        · replace hF := hF.to (if_pos hc4)
          refine x_iload_n C.1 dX12_sumSign_40 0 rfl ?_
          refine x_bipush C.1 (n := 37) dX12_sumSign_41 ?_
          refine x_icmp_ne C.1 (tgt := 51) dX12_sumSign_43 (by decide) (by omega) (by decide) (fun hc5 => ?_) (fun hc5 => ?_)
          · replace hF := hF.to (if_pos hc5)
            refine x_iconst C.1 (n := -1) dX12_sumSign_51 ?_
            exact x_iret (S := Unit) (post := (fun a (u : Unit) => (-1 ≤ a ∧ a ≤ 6) ∧ (a = -1 ∨ (2 ≤ a ∧ a ≤ 6 ∧ 0 ≤ x0)) ∧ (f_m_sumSign x0) a)) (w1 := (fun _ : Unit => [])) (a := (-1)) C hr rfl dX12_sumSign_52 (by decide) () rfl ⟨⟨by decide, by decide⟩, (by omega), hF _ rfl⟩
          · replace hF := hF.to (if_neg (fun hh => hh hc5))
            refine x_bipush C.1 (n := 6) dX12_sumSign_46 ?_
            refine x_goto C.1 (tgt := 52) dX12_sumSign_48 (by decide) ?_
            exact x_iret (S := Unit) (post := (fun a (u : Unit) => (-1 ≤ a ∧ a ≤ 6) ∧ (a = -1 ∨ (2 ≤ a ∧ a ≤ 6 ∧ 0 ≤ x0)) ∧ (f_m_sumSign x0) a)) (w1 := (fun _ : Unit => [])) (a := 6) C hr rfl dX12_sumSign_52 (by decide) () rfl ⟨⟨by decide, by decide⟩, (by omega), hF _ rfl⟩
        · replace hF := hF.to (if_neg (fun hh => hh hc4))
          refine x_iconst C.1 (n := 5) dX12_sumSign_36 ?_
          refine x_goto C.1 (tgt := 52) dX12_sumSign_37 (by decide) ?_
          exact x_iret (S := Unit) (post := (fun a (u : Unit) => (-1 ≤ a ∧ a ≤ 6) ∧ (a = -1 ∨ (2 ≤ a ∧ a ≤ 6 ∧ 0 ≤ x0)) ∧ (f_m_sumSign x0) a)) (w1 := (fun _ : Unit => [])) (a := 5) C hr rfl dX12_sumSign_52 (by decide) () rfl ⟨⟨by decide, by decide⟩, (by omega), hF _ rfl⟩
      · replace hF := hF.to (if_neg (fun hh => hh hc3))
        refine x_iconst C.1 (n := 4) dX12_sumSign_26 ?_
        refine x_goto C.1 (tgt := 52) dX12_sumSign_27 (by decide) ?_
        exact x_iret (S := Unit) (post := (fun a (u : Unit) => (-1 ≤ a ∧ a ≤ 6) ∧ (a = -1 ∨ (2 ≤ a ∧ a ≤ 6 ∧ 0 ≤ x0)) ∧ (f_m_sumSign x0) a)) (w1 := (fun _ : Unit => [])) (a := 4) C hr rfl dX12_sumSign_52 (by decide) () rfl ⟨⟨by decide, by decide⟩, (by omega), hF _ rfl⟩
    · replace hF := hF.to (if_neg (fun hh => hh hc2))
      refine x_iconst C.1 (n := 3) dX12_sumSign_16 ?_
      refine x_goto C.1 (tgt := 52) dX12_sumSign_17 (by decide) ?_
      exact x_iret (S := Unit) (post := (fun a (u : Unit) => (-1 ≤ a ∧ a ≤ 6) ∧ (a = -1 ∨ (2 ≤ a ∧ a ≤ 6 ∧ 0 ≤ x0)) ∧ (f_m_sumSign x0) a)) (w1 := (fun _ : Unit => [])) (a := 3) C hr rfl dX12_sumSign_52 (by decide) () rfl ⟨⟨by decide, by decide⟩, (by omega), hF _ rfl⟩
  · replace hF := hF.to (if_neg (fun hh => hh hc1))
    refine x_iconst C.1 (n := 2) dX12_sumSign_6 ?_
    refine x_goto C.1 (tgt := 52) dX12_sumSign_7 (by decide) ?_
    exact x_iret (S := Unit) (post := (fun a (u : Unit) => (-1 ≤ a ∧ a ≤ 6) ∧ (a = -1 ∨ (2 ≤ a ∧ a ≤ 6 ∧ 0 ≤ x0)) ∧ (f_m_sumSign x0) a)) (w1 := (fun _ : Unit => [])) (a := 2) C hr rfl dX12_sumSign_52 (by decide) () rfl ⟨⟨by decide, by decide⟩, (by omega), hF _ rfl⟩
theorem dX12_isClause_0 : decode cX12_isClause 0 = .ok (.iload_n 1, 1) := by decide +kernel
theorem dX12_isClause_1 : decode cX12_isClause 1 = .ok (.ifCond .le 17, 3) := by decide +kernel
theorem dX12_isClause_4 : decode cX12_isClause 4 = .ok (.iload_n 0, 1) := by decide +kernel
theorem dX12_isClause_5 : decode cX12_isClause 5 = .ok (.bipush 103, 2) := by decide +kernel
theorem dX12_isClause_7 : decode cX12_isClause 7 = .ok (.if_icmp .ne 7, 3) := by decide +kernel
theorem dX12_isClause_10 : decode cX12_isClause 10 = .ok (.iconst 1, 1) := by decide +kernel
theorem dX12_isClause_11 : decode cX12_isClause 11 = .ok (.goto 36, 3) := by decide +kernel
theorem dX12_isClause_14 : decode cX12_isClause 14 = .ok (.iconst 0, 1) := by decide +kernel
theorem dX12_isClause_15 : decode cX12_isClause 15 = .ok (.goto 32, 3) := by decide +kernel
theorem dX12_isClause_18 : decode cX12_isClause 18 = .ok (.iload_n 0, 1) := by decide +kernel
theorem dX12_isClause_19 : decode cX12_isClause 19 = .ok (.bipush 101, 2) := by decide +kernel
theorem dX12_isClause_21 : decode cX12_isClause 21 = .ok (.if_icmp .eq 21, 3) := by decide +kernel
theorem dX12_isClause_24 : decode cX12_isClause 24 = .ok (.iload_n 0, 1) := by decide +kernel
theorem dX12_isClause_25 : decode cX12_isClause 25 = .ok (.bipush 104, 2) := by decide +kernel
theorem dX12_isClause_27 : decode cX12_isClause 27 = .ok (.if_icmp .eq 15, 3) := by decide +kernel
theorem dX12_isClause_30 : decode cX12_isClause 30 = .ok (.iload_n 0, 1) := by decide +kernel
theorem dX12_isClause_31 : decode cX12_isClause 31 = .ok (.bipush 99, 2) := by decide +kernel
theorem dX12_isClause_33 : decode cX12_isClause 33 = .ok (.if_icmp .eq 9, 3) := by decide +kernel
theorem dX12_isClause_36 : decode cX12_isClause 36 = .ok (.iload_n 0, 1) := by decide +kernel
theorem dX12_isClause_37 : decode cX12_isClause 37 = .ok (.bipush 98, 2) := by decide +kernel
theorem dX12_isClause_39 : decode cX12_isClause 39 = .ok (.if_icmp .ne 7, 3) := by decide +kernel
theorem dX12_isClause_42 : decode cX12_isClause 42 = .ok (.iconst 1, 1) := by decide +kernel
theorem dX12_isClause_43 : decode cX12_isClause 43 = .ok (.goto 4, 3) := by decide +kernel
theorem dX12_isClause_46 : decode cX12_isClause 46 = .ok (.iconst 0, 1) := by decide +kernel
theorem dX12_isClause_47 : decode cX12_isClause 47 = .ok (.ireturn, 1) := by decide +kernel
set_option maxRecDepth 100000 in
def f_m_isClause (x0 : Int) (x1 : Int) : (Int) → Prop :=
  (if x1 ≤ 0 then (if x0 = 101 then rtn 1 else (if x0 = 104 then rtn 1 else (if x0 = 99 then rtn 1 else (if ¬ x0 = 98 then rtn 0 else rtn 1)))) else (if ¬ x0 = 103 then rtn 0 else rtn 1))
set_option maxHeartbeats 8000000 in
set_option maxRecDepth 100000 in
theorem m_isClause (l : Launch) (D : va_G) (cy : Nat → ClassId) (x0 : Int) (bx0 : -2147483648 ≤ x0 ∧ x0 ≤ 2147483647) (x1 : Int) (bx1 : -2147483648 ≤ x1 ∧ x1 ≤ 2147483647) : xMi l D (xTY cy) yX12_isClause cX12_isClause 2 (some .boolean) 0 0 0 0 [vI x0, vI x1] [] (fun _ : Unit => []) (fun a (u : Unit) => (0 ≤ a ∧ a ≤ 1) ∧ Sp a (0 ≤ x0) ∧ (f_m_isClause x0 x1) a) := by
  refine xMi.mk (lv0 := [(0, vI x0), (1, vI x1)]) (by decide) rfl (Nat.le_of_ble_eq_true rfl) (fun p e s m below meth c A C hr hnm hAe => ?_)
  have C : xC2 p s m _ meth c D A s.heap 2 cX12_isClause RX12 (xTY cy) := C
  have hF := Imp.of_eq (f_m_isClause.eq_def x0 x1)
  refine x_iload_n C.1 dX12_isClause_0 1 rfl ?_
  refine x_if_le C.1 (tgt := 18) dX12_isClause_1 (by decide) (by omega) (fun hc1 => ?_) (fun hc1 => ?_)
  · replace hF := hF.to (if_pos hc1)
    refine x_iload_n C.1 dX12_isClause_18 0 rfl ?_
    refine x_bipush C.1 (n := 101) dX12_isClause_19 ?_
    refine x_icmp_eq C.1 (tgt := 42) dX12_isClause_21 (by decide) (by omega) (by decide) (fun hc2 => ?_) (fun hc2 => ?_)
    · replace hF := hF.to (if_pos hc2)
      refine x_iconst C.1 (n := 1) dX12_isClause_42 ?_
      refine x_goto C.1 (tgt := 47) dX12_isClause_43 (by decide) ?_
      exact x_zret (S := Unit) (post := (fun a (u : Unit) => (0 ≤ a ∧ a ≤ 1) ∧ Sp a (0 ≤ x0) ∧ (f_m_isClause x0 x1) a)) (w1 := (fun _ : Unit => [])) (a := 1) C hr rfl dX12_isClause_47 (by decide) () rfl ⟨⟨by decide, by decide⟩, (Or.inr ⟨rfl, by omega⟩), hF _ rfl⟩
    · replace hF := hF.to (if_neg hc2)
      refine x_iload_n C.1 dX12_isClause_24 0 rfl ?_
      refine x_bipush C.1 (n := 104) dX12_isClause_25 ?_
      refine x_icmp_eq C.1 (tgt := 42) dX12_isClause_27 (by decide) (by omega) (by decide) (fun hc3 => ?_) (fun hc3 => ?_)
      · replace hF := hF.to (if_pos hc3)
        refine x_iconst C.1 (n := 1) dX12_isClause_42 ?_
        refine x_goto C.1 (tgt := 47) dX12_isClause_43 (by decide) ?_
        exact x_zret (S := Unit) (post := (fun a (u : Unit) => (0 ≤ a ∧ a ≤ 1) ∧ Sp a (0 ≤ x0) ∧ (f_m_isClause x0 x1) a)) (w1 := (fun _ : Unit => [])) (a := 1) C hr rfl dX12_isClause_47 (by decide) () rfl ⟨⟨by decide, by decide⟩, (Or.inr ⟨rfl, by omega⟩), hF _ rfl⟩
      · replace hF := hF.to (if_neg hc3)
        refine x_iload_n C.1 dX12_isClause_30 0 rfl ?_
        refine x_bipush C.1 (n := 99) dX12_isClause_31 ?_
        refine x_icmp_eq C.1 (tgt := 42) dX12_isClause_33 (by decide) (by omega) (by decide) (fun hc4 => ?_) (fun hc4 => ?_)
        · replace hF := hF.to (if_pos hc4)
          refine x_iconst C.1 (n := 1) dX12_isClause_42 ?_
          refine x_goto C.1 (tgt := 47) dX12_isClause_43 (by decide) ?_
          exact x_zret (S := Unit) (post := (fun a (u : Unit) => (0 ≤ a ∧ a ≤ 1) ∧ Sp a (0 ≤ x0) ∧ (f_m_isClause x0 x1) a)) (w1 := (fun _ : Unit => [])) (a := 1) C hr rfl dX12_isClause_47 (by decide) () rfl ⟨⟨by decide, by decide⟩, (Or.inr ⟨rfl, by omega⟩), hF _ rfl⟩
        · replace hF := hF.to (if_neg hc4)
          refine x_iload_n C.1 dX12_isClause_36 0 rfl ?_
          refine x_bipush C.1 (n := 98) dX12_isClause_37 ?_
          refine x_icmp_ne C.1 (tgt := 46) dX12_isClause_39 (by decide) (by omega) (by decide) (fun hc5 => ?_) (fun hc5 => ?_)
          · replace hF := hF.to (if_pos hc5)
            refine x_iconst C.1 (n := 0) dX12_isClause_46 ?_
            exact x_zret (S := Unit) (post := (fun a (u : Unit) => (0 ≤ a ∧ a ≤ 1) ∧ Sp a (0 ≤ x0) ∧ (f_m_isClause x0 x1) a)) (w1 := (fun _ : Unit => [])) (a := 0) C hr rfl dX12_isClause_47 (by decide) () rfl ⟨⟨by decide, by decide⟩, (Or.inl rfl), hF _ rfl⟩
          · replace hF := hF.to (if_neg (fun hh => hh hc5))
            refine x_iconst C.1 (n := 1) dX12_isClause_42 ?_
            refine x_goto C.1 (tgt := 47) dX12_isClause_43 (by decide) ?_
            exact x_zret (S := Unit) (post := (fun a (u : Unit) => (0 ≤ a ∧ a ≤ 1) ∧ Sp a (0 ≤ x0) ∧ (f_m_isClause x0 x1) a)) (w1 := (fun _ : Unit => [])) (a := 1) C hr rfl dX12_isClause_47 (by decide) () rfl ⟨⟨by decide, by decide⟩, (Or.inr ⟨rfl, by omega⟩), hF _ rfl⟩
  · replace hF := hF.to (if_neg hc1)
    refine x_iload_n C.1 dX12_isClause_4 0 rfl ?_
    refine x_bipush C.1 (n := 103) dX12_isClause_5 ?_
    refine x_icmp_ne C.1 (tgt := 14) dX12_isClause_7 (by decide) (by omega) (by decide) (fun hc6 => ?_) (fun hc6 => ?_)
    · replace hF := hF.to (if_pos hc6)
      refine x_iconst C.1 (n := 0) dX12_isClause_14 ?_
      refine x_goto C.1 (tgt := 47) dX12_isClause_15 (by decide) ?_
      exact x_zret (S := Unit) (post := (fun a (u : Unit) => (0 ≤ a ∧ a ≤ 1) ∧ Sp a (0 ≤ x0) ∧ (f_m_isClause x0 x1) a)) (w1 := (fun _ : Unit => [])) (a := 0) C hr rfl dX12_isClause_47 (by decide) () rfl ⟨⟨by decide, by decide⟩, (Or.inl rfl), hF _ rfl⟩
    · replace hF := hF.to (if_neg (fun hh => hh hc6))
      refine x_iconst C.1 (n := 1) dX12_isClause_10 ?_
      refine x_goto C.1 (tgt := 47) dX12_isClause_11 (by decide) ?_
      exact x_zret (S := Unit) (post := (fun a (u : Unit) => (0 ≤ a ∧ a ≤ 1) ∧ Sp a (0 ≤ x0) ∧ (f_m_isClause x0 x1) a)) (w1 := (fun _ : Unit => [])) (a := 1) C hr rfl dX12_isClause_47 (by decide) () rfl ⟨⟨by decide, by decide⟩, (Or.inr ⟨rfl, by omega⟩), hF _ rfl⟩
theorem dX12_waitTop_0 : decode cX12_waitTop 0 = .ok (.aload_n 0, 1) := by decide +kernel
theorem dX12_waitTop_1 : decode cX12_waitTop 1 = .ok (.getfield 174, 3) := by decide +kernel
theorem dX12_waitTop_4 : decode cX12_waitTop 4 = .ok (.ifCond .ne 7, 3) := by decide +kernel
theorem dX12_waitTop_7 : decode cX12_waitTop 7 = .ok (.iconst (-1), 1) := by decide +kernel
theorem dX12_waitTop_8 : decode cX12_waitTop 8 = .ok (.goto 17, 3) := by decide +kernel
theorem dX12_waitTop_11 : decode cX12_waitTop 11 = .ok (.aload_n 0, 1) := by decide +kernel
theorem dX12_waitTop_12 : decode cX12_waitTop 12 = .ok (.getfield 26, 3) := by decide +kernel
theorem dX12_waitTop_15 : decode cX12_waitTop 15 = .ok (.aload_n 0, 1) := by decide +kernel
theorem dX12_waitTop_16 : decode cX12_waitTop 16 = .ok (.getfield 174, 3) := by decide +kernel
theorem dX12_waitTop_19 : decode cX12_waitTop 19 = .ok (.iconst 1, 1) := by decide +kernel
theorem dX12_waitTop_20 : decode cX12_waitTop 20 = .ok (.isub, 1) := by decide +kernel
theorem dX12_waitTop_21 : decode cX12_waitTop 21 = .ok (.iaload, 1) := by decide +kernel
theorem dX12_waitTop_22 : decode cX12_waitTop 22 = .ok (.ldc 170, 2) := by decide +kernel
theorem dX12_waitTop_24 : decode cX12_waitTop 24 = .ok (.idiv, 1) := by decide +kernel
theorem dX12_waitTop_25 : decode cX12_waitTop 25 = .ok (.ireturn, 1) := by decide +kernel
set_option maxRecDepth 100000 in
def f_m_waitTop (V : Nat → Nat → Int) (J : Nat → Nat → Int) (Rr : Nat → Nat → Nat) : (Int) → Prop :=
  rdb (V 0 11) fun z1 => fct (0 ≤ z1 ∧ z1 ≤ 220) <| (if ¬ z1 = 0 then rdb (V 6 ((z1 - 1).toNat)) fun z3 => rdb (iDiv z3 1048576) fun z4 => rtn z4 else rtn ((-1)))
set_option maxHeartbeats 8000000 in
set_option maxRecDepth 100000 in
theorem m_waitTop (l : Launch) (D : va_G) (cy : Nat → ClassId) (ad : Nat → Nat) (G : Nat → Nat → Int) (V J : Nat → Nat → Int) (Rr : Nat → Nat → Nat) (hI : MI G V) (hJ : VJ J) (hR : MR Rr)  : xMi l D (xTY cy) yX12_waitTop cX12_waitTop 1 (some .int) 0 0 0 0 [.ref (ad 0)] (MW cy ad V J Rr) (fun _ : Unit => MW cy ad V J Rr) (fun a (u : Unit) => a = ptop V ∧ (f_m_waitTop V J Rr) a) := by
  refine xMi.mk (lv0 := [(0, .ref (ad 0))]) (by decide) rfl (Nat.le_of_ble_eq_true rfl) (fun p e s m below meth c A C hr hnm hAe => ?_)
  have C : xC2 p s m _ meth c D A s.heap 1 cX12_waitTop RX12 (xTY cy) := C
  have hF := Imp.of_eq (f_m_waitTop.eq_def V J Rr)
  refine x_aload_n C.1 dX12_waitTop_0 0 rfl ?_
  obtain ⟨z1, ez1, bz1⟩ := hI.rd 0 11 (x := 0) (y := 220) rfl
  replace hF := hF.to (rdb_e (z := z1) ez1)
  replace hF := hF.fc bz1
  refine x_getI C (N := 33) (i := 0) (by decide) rfl vc_X12 wx_X12 11 (by decide) wf_X12_174 rfl dX12_waitTop_1 (a := z1) ez1 ?_
  refine x_if_ne C.1 (tgt := 11) dX12_waitTop_4 (by decide) (by omega) (fun hc2 => ?_) (fun hc2 => ?_)
  · replace hF := hF.to (if_pos hc2)
    refine x_aload_n C.1 dX12_waitTop_11 0 rfl ?_
    refine x_getA C (N := 33) (i := 0) (by decide) rfl vc_X12 wx_X12 14 (by decide) wf_X12_26 (a := 6) rfl dX12_waitTop_12 ?_
    refine x_aload_n C.1 dX12_waitTop_15 0 rfl ?_
    refine x_getI C (N := 33) (i := 0) (by decide) rfl vc_X12 wx_X12 11 (by decide) wf_X12_174 rfl dX12_waitTop_16 (a := z1) ez1 ?_
    refine x_iconst C.1 (n := 1) dX12_waitTop_19 ?_
    refine x_isub C.1 (v := z1 - 1) (by omega) dX12_waitTop_20 ?_
    obtain ⟨z3, ez3, bz3⟩ := hI.rd 6 ((z1 - 1).toNat) (x := -2147483648) (y := 2147483647) rfl
    replace hF := hF.to (rdb_e (z := z3) ez3)
    refine x_iald C (N := 33) (i := 6) (q := z1 - 1) (by decide) rfl (by omega) (by decide) dX12_waitTop_21 (a := z3) ez3 ?_
    refine x_ldc C.1 (n := 1048576) wq_X12_170 dX12_waitTop_22 ?_
    obtain ⟨z4, hz4, bz4⟩ : ∃ z : Int, iDiv z3 1048576 = z ∧ (-2147483648 ≤ z ∧ z ≤ 2147483647) := ⟨_, rfl, xi_r _⟩
    replace hF := hF.to (rdb_e (z := z4) hz4)
    refine x_idiv C.1 (v := z4) hz4 dX12_waitTop_24 (by decide) (by decide) ?_
    exact x_iret (S := Unit) (post := (fun a (u : Unit) => a = ptop V ∧ (f_m_waitTop V J Rr) a)) (w1 := (fun _ : Unit => MW cy ad V J Rr)) (a := z4) C hr rfl dX12_waitTop_25 (by omega) () rfl ⟨(by unfold ptop pdv; rw [ez1, if_neg (by omega), ez3]; exact hz4.symm), hF _ rfl⟩
  · replace hF := hF.to (if_neg (fun hh => hh hc2))
    refine x_iconst C.1 (n := -1) dX12_waitTop_7 ?_
    refine x_goto C.1 (tgt := 25) dX12_waitTop_8 (by decide) ?_
    exact x_iret (S := Unit) (post := (fun a (u : Unit) => a = ptop V ∧ (f_m_waitTop V J Rr) a)) (w1 := (fun _ : Unit => MW cy ad V J Rr)) (a := (-1)) C hr rfl dX12_waitTop_25 (by decide) () rfl ⟨(by unfold ptop; rw [ez1, if_pos (by omega)]), hF _ rfl⟩
theorem dX12_notes_0 : decode cX12_notes 0 = .ok (.aload_n 0, 1) := by decide +kernel
theorem dX12_notes_1 : decode cX12_notes 1 = .ok (.getfield 23, 3) := by decide +kernel
theorem dX12_notes_4 : decode cX12_notes 4 = .ok (.aload_n 0, 1) := by decide +kernel
theorem dX12_notes_5 : decode cX12_notes 5 = .ok (.getfield 167, 3) := by decide +kernel
theorem dX12_notes_8 : decode cX12_notes 8 = .ok (.ldc 170, 2) := by decide +kernel
theorem dX12_notes_10 : decode cX12_notes 10 = .ok (.iload_n 1, 1) := by decide +kernel
theorem dX12_notes_11 : decode cX12_notes 11 = .ok (.imul, 1) := by decide +kernel
theorem dX12_notes_12 : decode cX12_notes 12 = .ok (.iload_n 2, 1) := by decide +kernel
theorem dX12_notes_13 : decode cX12_notes 13 = .ok (.iadd, 1) := by decide +kernel
theorem dX12_notes_14 : decode cX12_notes 14 = .ok (.iastore, 1) := by decide +kernel
theorem dX12_notes_15 : decode cX12_notes 15 = .ok (.aload_n 0, 1) := by decide +kernel
theorem dX12_notes_16 : decode cX12_notes 16 = .ok (.aload_n 0, 1) := by decide +kernel
theorem dX12_notes_17 : decode cX12_notes 17 = .ok (.getfield 167, 3) := by decide +kernel
theorem dX12_notes_20 : decode cX12_notes 20 = .ok (.iconst 1, 1) := by decide +kernel
theorem dX12_notes_21 : decode cX12_notes 21 = .ok (.iadd, 1) := by decide +kernel
theorem dX12_notes_22 : decode cX12_notes 22 = .ok (.putfield 167, 3) := by decide +kernel
theorem dX12_notes_25 : decode cX12_notes 25 = .ok (.return_, 1) := by decide +kernel
set_option maxRecDepth 100000 in
def f_m_notes (x1 : Int) (x2 : Int) (V : Nat → Nat → Int) (J : Nat → Nat → Int) (Rr : Nat → Nat → Nat) : (Nat → Nat → Int) → Prop :=
  rdb (V 0 10) fun z1 => fct (0 ≤ z1 ∧ z1 ≤ 220) <| rdb (up2 V 5 z1.toNat (1048576 * x1 + x2)) fun V2 => rdb (up2 V2 0 10 (z1 + 1)) fun V3 => rtn V3
set_option maxHeartbeats 8000000 in
set_option maxRecDepth 100000 in
theorem m_notes (l : Launch) (D : va_G) (cy : Nat → ClassId) (ad : Nat → Nat) (G : Nat → Nat → Int) (V J : Nat → Nat → Int) (Rr : Nat → Nat → Nat) (hI : MI G V) (hJ : VJ J) (hR : MR Rr) (x1 : Int) (bx1 : 0 ≤ x1 ∧ x1 ≤ 12) (x2 : Int) (bx2 : 0 ≤ x2 ∧ x2 ≤ 1048575) (hC : V 0 10 ≤ 219) : xMv l D (xTY cy) yX12_notes cX12_notes 3 none 0 0 0 0 [.ref (ad 0), vI x1, vI x2] (MW cy ad V J Rr) (fun u : Nat → Nat → Int => MW cy ad u J Rr) (fun u : Nat → Nat → Int => MI G u ∧ u = up2 (up2 V 5 (V 0 10).toNat (1048576 * x1 + x2)) 0 10 (V 0 10 + 1) ∧ FBm 590295810358705652736 V u ∧ (f_m_notes x1 x2 V J Rr) u) := by
  refine xMv.mk (lv0 := [(0, .ref (ad 0)), (1, vI x1), (2, vI x2)]) (by decide) rfl (Nat.le_of_ble_eq_true rfl) (fun p e s m below meth c A C hr hnm hAe => ?_)
  have C : xC2 p s m _ meth c D A s.heap 3 cX12_notes RX12 (xTY cy) := C
  have hB : FBm 590295810358705652736 V V := FBm.rf _ _
  have hF := Imp.of_eq (f_m_notes.eq_def x1 x2 V J Rr)
  obtain ⟨z1, ez1, bz1⟩ := hI.rd 0 10 (x := 0) (y := 220) rfl
  replace hF := hF.to (rdb_e (z := z1) ez1)
  replace hF := hF.fc bz1
  rw [ez1] at hC
  refine x_aload_n C.1 dX12_notes_0 0 rfl ?_
  refine x_getA C (N := 33) (i := 0) (by decide) rfl vc_X12 wx_X12 13 (by decide) wf_X12_23 (a := 5) rfl dX12_notes_1 ?_
  refine x_aload_n C.1 dX12_notes_4 0 rfl ?_
  refine x_getI C (N := 33) (i := 0) (by decide) rfl vc_X12 wx_X12 10 (by decide) wf_X12_167 rfl dX12_notes_5 (a := z1) ez1 ?_
  refine x_ldc C.1 (n := 1048576) wq_X12_170 dX12_notes_8 ?_
  refine x_iload_n C.1 dX12_notes_10 1 rfl ?_
  refine x_imul C.1 (v := 1048576 * x1) (by omega) dX12_notes_11 ?_
  refine x_iload_n C.1 dX12_notes_12 2 rfl ?_
  refine x_iadd C.1 (v := 1048576 * x1 + x2) (by omega) dX12_notes_13 ?_
  refine x_iast C (N := 33) (i := 5) (q := z1) (a := 1048576 * x1 + x2) (by decide) rfl (by omega) (by decide) dX12_notes_14 ?_
  refine x_gV ?_
  intro V2 hV2
  have hI2 : MI G V2 := hI.up hV2 rfl (by omega) rfl (Or.inl (by decide))
  have hB2 := hB.up hV2 (by rw [mkey_r (by decide)]; rfl)
  replace hF := hF.to (rdb_e (z := V2) hV2.symm)
  refine x_aload_n C.1 dX12_notes_15 0 rfl ?_
  refine x_aload_n C.1 dX12_notes_16 0 rfl ?_
  refine x_getI C (N := 33) (i := 0) (by decide) rfl vc_X12 wx_X12 10 (by decide) wf_X12_167 rfl dX12_notes_17 (a := z1) ((congrFun (congrFun hV2 0) 10).trans ((up2_n _ _ (Or.inl (by decide))).trans ez1)) ?_
  refine x_iconst C.1 (n := 1) dX12_notes_20 ?_
  refine x_iadd C.1 (v := z1 + 1) (by omega) dX12_notes_21 ?_
  refine x_putI C (N := 33) (i := 0) (by decide) rfl vc_X12 wx_X12 10 (by decide) wf_X12_167 tyX12 tyX12_ok nmX12 rfl (tyX12_ok 10 (by decide)) rfl dX12_notes_22 rfl rfl ?_
  refine x_gV ?_
  intro V3 hV3
  have hI3 : MI G V3 := hI2.up hV3 rfl (by omega) rfl (Or.inl (by decide))
  have hB3 := hB2.up hV3 rfl
  replace hF := hF.to (rdb_e (z := V3) hV3.symm)
  exact x_vret (S := (Nat → Nat → Int)) (post := (fun u : Nat → Nat → Int => MI G u ∧ u = up2 (up2 V 5 (V 0 10).toNat (1048576 * x1 + x2)) 0 10 (V 0 10 + 1) ∧ FBm 590295810358705652736 V u ∧ (f_m_notes x1 x2 V J Rr) u)) (w1 := (fun u : Nat → Nat → Int => MW cy ad u J Rr)) C hr rfl dX12_notes_25 V3 rfl ⟨hI3, (by rw [hV3, hV2, ez1]), hB3, hF _ rfl⟩
theorem dX12_opens_0 : decode cX12_opens 0 = .ok (.aload_n 0, 1) := by decide +kernel
theorem dX12_opens_1 : decode cX12_opens 1 = .ok (.getfield 171, 3) := by decide +kernel
theorem dX12_opens_4 : decode cX12_opens 4 = .ok (.bipush 6, 2) := by decide +kernel
theorem dX12_opens_6 : decode cX12_opens 6 = .ok (.if_icmp .ne 13, 3) := by decide +kernel
theorem dX12_opens_9 : decode cX12_opens 9 = .ok (.aload_n 0, 1) := by decide +kernel
theorem dX12_opens_10 : decode cX12_opens 10 = .ok (.iconst 5, 1) := by decide +kernel
theorem dX12_opens_11 : decode cX12_opens 11 = .ok (.aload_n 0, 1) := by decide +kernel
theorem dX12_opens_12 : decode cX12_opens 12 = .ok (.getfield 144, 3) := by decide +kernel
theorem dX12_opens_15 : decode cX12_opens 15 = .ok (.invokevirtual 157, 3) := by decide +kernel
theorem dX12_opens_18 : decode cX12_opens 18 = .ok (.ireturn, 1) := by decide +kernel
theorem dX12_opens_19 : decode cX12_opens 19 = .ok (.aload_n 0, 1) := by decide +kernel
theorem dX12_opens_20 : decode cX12_opens 20 = .ok (.aload_n 0, 1) := by decide +kernel
theorem dX12_opens_21 : decode cX12_opens 21 = .ok (.getfield 171, 3) := by decide +kernel
theorem dX12_opens_24 : decode cX12_opens 24 = .ok (.iconst 1, 1) := by decide +kernel
theorem dX12_opens_25 : decode cX12_opens 25 = .ok (.iadd, 1) := by decide +kernel
theorem dX12_opens_26 : decode cX12_opens 26 = .ok (.putfield 171, 3) := by decide +kernel
theorem dX12_opens_29 : decode cX12_opens 29 = .ok (.aload_n 0, 1) := by decide +kernel
theorem dX12_opens_30 : decode cX12_opens 30 = .ok (.getfield 26, 3) := by decide +kernel
theorem dX12_opens_33 : decode cX12_opens 33 = .ok (.aload_n 0, 1) := by decide +kernel
theorem dX12_opens_34 : decode cX12_opens 34 = .ok (.getfield 174, 3) := by decide +kernel
theorem dX12_opens_37 : decode cX12_opens 37 = .ok (.ldc 170, 2) := by decide +kernel
theorem dX12_opens_39 : decode cX12_opens 39 = .ok (.iload_n 1, 1) := by decide +kernel
theorem dX12_opens_40 : decode cX12_opens 40 = .ok (.imul, 1) := by decide +kernel
theorem dX12_opens_41 : decode cX12_opens 41 = .ok (.iastore, 1) := by decide +kernel
theorem dX12_opens_42 : decode cX12_opens 42 = .ok (.aload_n 0, 1) := by decide +kernel
theorem dX12_opens_43 : decode cX12_opens 43 = .ok (.aload_n 0, 1) := by decide +kernel
theorem dX12_opens_44 : decode cX12_opens 44 = .ok (.getfield 174, 3) := by decide +kernel
theorem dX12_opens_47 : decode cX12_opens 47 = .ok (.iconst 1, 1) := by decide +kernel
theorem dX12_opens_48 : decode cX12_opens 48 = .ok (.iadd, 1) := by decide +kernel
theorem dX12_opens_49 : decode cX12_opens 49 = .ok (.putfield 174, 3) := by decide +kernel
theorem dX12_opens_52 : decode cX12_opens 52 = .ok (.aload_n 0, 1) := by decide +kernel
theorem dX12_opens_53 : decode cX12_opens 53 = .ok (.aload_n 0, 1) := by decide +kernel
theorem dX12_opens_54 : decode cX12_opens 54 = .ok (.getfield 144, 3) := by decide +kernel
theorem dX12_opens_57 : decode cX12_opens 57 = .ok (.iconst 1, 1) := by decide +kernel
theorem dX12_opens_58 : decode cX12_opens 58 = .ok (.iadd, 1) := by decide +kernel
theorem dX12_opens_59 : decode cX12_opens 59 = .ok (.putfield 144, 3) := by decide +kernel
theorem dX12_opens_62 : decode cX12_opens 62 = .ok (.iconst 1, 1) := by decide +kernel
theorem dX12_opens_63 : decode cX12_opens 63 = .ok (.ireturn, 1) := by decide +kernel
set_option maxRecDepth 100000 in
def f_m_opens (x1 : Int) (V : Nat → Nat → Int) (J : Nat → Nat → Int) (Rr : Nat → Nat → Nat) : (Int × (Nat → Nat → Int)) → Prop :=
  rdb (V 0 5) fun z1 => fct (0 ≤ z1 ∧ z1 ≤ 220) <| rdb (V 0 6) fun z2 => fct (0 ≤ z2 ∧ z2 ≤ 220) <| rdb (V 0 11) fun z3 => fct (0 ≤ z3 ∧ z3 ≤ 220) <| rdb (V 0 9) fun z4 => (if ¬ z4 = 6 then rdb (wr (z4 + 1)) fun z6 => rdb (up2 V 0 9 z6) fun V7 => rdb (up2 V7 6 z3.toNat (1048576 * x1)) fun V8 => rdb (up2 V8 0 11 (z3 + 1)) fun V9 => rdb (up2 V9 0 5 (z1 + 1)) fun V10 => rtn (1, V10) else calVM 128 V (f_m_wrongAt 5 z1 V J Rr) fun z11 V11 => fct (0 ≤ z11 ∧ z11 ≤ 0) <| rtn (z11, V11))
set_option maxHeartbeats 8000000 in
set_option maxRecDepth 100000 in
theorem m_opens (l : Launch) (D : va_G) (cy : Nat → ClassId) (ad : Nat → Nat) (G : Nat → Nat → Int) (V J : Nat → Nat → Int) (Rr : Nat → Nat → Nat) (hI : MI G V) (hJ : VJ J) (hR : MR Rr) (x1 : Int) (bx1 : 0 ≤ x1 ∧ x1 ≤ 14) (hpl : V 0 5 < V 0 6) (hLL : V 0 6 ≤ 200) (hw : V 0 11 ≤ 219) : xMi l D (xTY cy) yX12_opens cX12_opens 2 (some .boolean) 1 22 0 0 [.ref (ad 0), vI x1] (MW cy ad V J Rr) (fun u : Nat → Nat → Int => MW cy ad u J Rr) (fun a (u : Nat → Nat → Int) => MI G u ∧ (0 ≤ a ∧ a ≤ 1) ∧ (Sp a (∃ o : Int, u = up2 (up2 (up2 (up2 V 0 9 o) 6 (V 0 11).toNat (1048576 * x1)) 0 11 (V 0 11 + 1)) 0 5 (V 0 5 + 1))) ∧ FBm 1180591620717411306144 V u ∧ (f_m_opens x1 V J Rr) (a, u)) := by
  refine xMi.mk (lv0 := [(0, .ref (ad 0)), (1, vI x1)]) (by decide) rfl (Nat.le_of_ble_eq_true rfl) (fun p e s m below meth c A C hr hnm hAe => ?_)
  have C : xC2 p s m _ meth c D A s.heap 2 cX12_opens RX12 (xTY cy) := C
  have hB : FBm 1180591620717411306144 V V := FBm.rf _ _
  have hF := Imp.of_eq (f_m_opens.eq_def x1 V J Rr)
  obtain ⟨z1, ez1, bz1⟩ := hI.rd 0 5 (x := 0) (y := 220) rfl
  replace hF := hF.to (rdb_e (z := z1) ez1)
  replace hF := hF.fc bz1
  obtain ⟨z2, ez2, bz2⟩ := hI.rd 0 6 (x := 0) (y := 220) rfl
  replace hF := hF.to (rdb_e (z := z2) ez2)
  replace hF := hF.fc bz2
  obtain ⟨z3, ez3, bz3⟩ := hI.rd 0 11 (x := 0) (y := 220) rfl
  replace hF := hF.to (rdb_e (z := z3) ez3)
  replace hF := hF.fc bz3
  rw [ez1, ez2] at hpl
  rw [ez2] at hLL
  rw [ez3] at hw
  refine x_aload_n C.1 dX12_opens_0 0 rfl ?_
  obtain ⟨z4, ez4, bz4⟩ := hI.rd 0 9 (x := -2147483648) (y := 2147483647) rfl
  replace hF := hF.to (rdb_e (z := z4) ez4)
  refine x_getI C (N := 33) (i := 0) (by decide) rfl vc_X12 wx_X12 9 (by decide) wf_X12_171 rfl dX12_opens_1 (a := z4) ez4 ?_
  refine x_bipush C.1 (n := 6) dX12_opens_4 ?_
  refine x_icmp_ne C.1 (tgt := 19) dX12_opens_6 (by decide) (by omega) (by decide) (fun hc5 => ?_) (fun hc5 => ?_)
  · replace hF := hF.to (if_pos hc5)
    refine x_aload_n C.1 dX12_opens_19 0 rfl ?_
    refine x_aload_n C.1 dX12_opens_20 0 rfl ?_
    refine x_getI C (N := 33) (i := 0) (by decide) rfl vc_X12 wx_X12 9 (by decide) wf_X12_171 rfl dX12_opens_21 (a := z4) ez4 ?_
    refine x_iconst C.1 (n := 1) dX12_opens_24 ?_
    refine x_iadd C.1 (v := z4 + 1) (by omega) dX12_opens_25 ?_
    refine x_wrapg ?_
    intro z6 bz6 ew6
    replace hF := hF.to (rdb_e (z := z6) ew6.symm)
    refine x_putI C (N := 33) (i := 0) (by decide) rfl vc_X12 wx_X12 9 (by decide) wf_X12_171 tyX12 tyX12_ok nmX12 rfl (tyX12_ok 9 (by decide)) rfl dX12_opens_26 rfl rfl ?_
    refine x_gV ?_
    intro V7 hV7
    have hI7 : MI G V7 := hI.up hV7 rfl (by omega) rfl (Or.inl (by decide))
    have hB7 := hB.up hV7 rfl
    replace hF := hF.to (rdb_e (z := V7) hV7.symm)
    refine x_aload_n C.1 dX12_opens_29 0 rfl ?_
    refine x_getA C (N := 33) (i := 0) (by decide) rfl vc_X12 wx_X12 14 (by decide) wf_X12_26 (a := 6) rfl dX12_opens_30 ?_
    refine x_aload_n C.1 dX12_opens_33 0 rfl ?_
    refine x_getI C (N := 33) (i := 0) (by decide) rfl vc_X12 wx_X12 11 (by decide) wf_X12_174 rfl dX12_opens_34 (a := z3) ((congrFun (congrFun hV7 0) 11).trans ((up2_n _ _ (Or.inr (by decide))).trans ez3)) ?_
    refine x_ldc C.1 (n := 1048576) wq_X12_170 dX12_opens_37 ?_
    refine x_iload_n C.1 dX12_opens_39 1 rfl ?_
    refine x_imul C.1 (v := 1048576 * x1) (by omega) dX12_opens_40 ?_
    refine x_iast C (N := 33) (i := 6) (q := z3) (a := 1048576 * x1) (by decide) rfl (by omega) (by decide) dX12_opens_41 ?_
    refine x_gV ?_
    intro V8 hV8
    have hI8 : MI G V8 := hI7.up hV8 rfl (by omega) rfl (Or.inl (by decide))
    have hB8 := hB7.up hV8 (by rw [mkey_r (by decide)]; rfl)
    replace hF := hF.to (rdb_e (z := V8) hV8.symm)
    refine x_aload_n C.1 dX12_opens_42 0 rfl ?_
    refine x_aload_n C.1 dX12_opens_43 0 rfl ?_
    refine x_getI C (N := 33) (i := 0) (by decide) rfl vc_X12 wx_X12 11 (by decide) wf_X12_174 rfl dX12_opens_44 (a := z3) ((congrFun (congrFun hV8 0) 11).trans ((up2_n _ _ (Or.inl (by decide))).trans ((congrFun (congrFun hV7 0) 11).trans ((up2_n _ _ (Or.inr (by decide))).trans ez3)))) ?_
    refine x_iconst C.1 (n := 1) dX12_opens_47 ?_
    refine x_iadd C.1 (v := z3 + 1) (by omega) dX12_opens_48 ?_
    refine x_putI C (N := 33) (i := 0) (by decide) rfl vc_X12 wx_X12 11 (by decide) wf_X12_174 tyX12 tyX12_ok nmX12 rfl (tyX12_ok 11 (by decide)) rfl dX12_opens_49 rfl rfl ?_
    refine x_gV ?_
    intro V9 hV9
    have hI9 : MI G V9 := hI8.up hV9 rfl (by omega) rfl (Or.inl (by decide))
    have hB9 := hB8.up hV9 rfl
    replace hF := hF.to (rdb_e (z := V9) hV9.symm)
    refine x_aload_n C.1 dX12_opens_52 0 rfl ?_
    refine x_aload_n C.1 dX12_opens_53 0 rfl ?_
    refine x_getI C (N := 33) (i := 0) (by decide) rfl vc_X12 wx_X12 5 (by decide) wf_X12_144 rfl dX12_opens_54 (a := z1) ((congrFun (congrFun hV9 0) 5).trans ((up2_n _ _ (Or.inr (by decide))).trans ((congrFun (congrFun hV8 0) 5).trans ((up2_n _ _ (Or.inl (by decide))).trans ((congrFun (congrFun hV7 0) 5).trans ((up2_n _ _ (Or.inr (by decide))).trans ez1)))))) ?_
    refine x_iconst C.1 (n := 1) dX12_opens_57 ?_
    refine x_iadd C.1 (v := z1 + 1) (by omega) dX12_opens_58 ?_
    refine x_putI C (N := 33) (i := 0) (by decide) rfl vc_X12 wx_X12 5 (by decide) wf_X12_144 tyX12 tyX12_ok nmX12 rfl (tyX12_ok 5 (by decide)) rfl dX12_opens_59 rfl rfl ?_
    refine x_gV ?_
    intro V10 hV10
    have hI10 : MI G V10 := hI9.up hV10 rfl (by omega) rfl (Or.inl (by decide))
    have hB10 := hB9.up hV10 rfl
    replace hF := hF.to (rdb_e (z := V10) hV10.symm)
    refine x_iconst C.1 (n := 1) dX12_opens_62 ?_
    exact x_zret (S := (Nat → Nat → Int)) (post := (fun a (u : Nat → Nat → Int) => MI G u ∧ (0 ≤ a ∧ a ≤ 1) ∧ (Sp a (∃ o : Int, u = up2 (up2 (up2 (up2 V 0 9 o) 6 (V 0 11).toNat (1048576 * x1)) 0 11 (V 0 11 + 1)) 0 5 (V 0 5 + 1))) ∧ FBm 1180591620717411306144 V u ∧ (f_m_opens x1 V J Rr) (a, u))) (w1 := (fun u : Nat → Nat → Int => MW cy ad u J Rr)) (a := 1) C hr rfl dX12_opens_63 (by decide) V10 rfl ⟨hI10, ⟨by decide, by decide⟩, (Or.inr ⟨rfl, z6, by rw [hV10, hV9, hV8, hV7, ez1, ez3]⟩), hB10, hF _ rfl⟩
  · replace hF := hF.to (if_neg (fun hh => hh hc5))
    refine x_aload_n C.1 dX12_opens_9 0 rfl ?_
    refine x_iconst C.1 (n := 5) dX12_opens_10 ?_
    refine x_aload_n C.1 dX12_opens_11 0 rfl ?_
    refine x_getI C (N := 33) (i := 0) (by decide) rfl vc_X12 wx_X12 5 (by decide) wf_X12_144 rfl dX12_opens_12 (a := z1) ez1 ?_
    refine x_callVi C (As := [vI 5, vI z1]) (rest := []) 0 (xw_at (N := 33) (i := 0) (by decide) rfl) vc_X12 (m_wrongAt l D cy ad G V J Rr hI hJ hR 5 ⟨by decide, by decide⟩ z1 ⟨by omega, by omega⟩) (l1 := []) (l2 := []) (List.append_nil _).symm (w2 := fun u : Nat → Nat → Int => MW cy ad u J Rr) (fun _ => List.append_nil _) rfl wm_yX12_wrongAt wn_X12 wl_X12_157 wi_yX12_wrongAt we_yX12_wrongAt hd_yX12_wrongAt rfl ⟨Nat.le_of_ble_eq_true rfl, Nat.le_of_ble_eq_true rfl⟩ (Nat.le_of_ble_eq_true rfl) ⟨Nat.le_of_ble_eq_true rfl, Nat.le_of_ble_eq_true rfl⟩ dX12_opens_15 (fun z11 V11 bz11 h11 => ?_)
    obtain ⟨hI11, bq11, hx11_0, hBc11, hFc11⟩ := h11
    replace hF := calVM_i hF hFc11 hBc11
    replace hF := hF.fc bq11
    have hB11 := hB.tr hBc11 (m := 128) rfl
    exact x_zret (S := (Nat → Nat → Int)) (post := (fun a (u : Nat → Nat → Int) => MI G u ∧ (0 ≤ a ∧ a ≤ 1) ∧ (Sp a (∃ o : Int, u = up2 (up2 (up2 (up2 V 0 9 o) 6 (V 0 11).toNat (1048576 * x1)) 0 11 (V 0 11 + 1)) 0 5 (V 0 5 + 1))) ∧ FBm 1180591620717411306144 V u ∧ (f_m_opens x1 V J Rr) (a, u))) (w1 := (fun u : Nat → Nat → Int => MW cy ad u J Rr)) (a := z11) C hr rfl dX12_opens_18 (by omega) V11 rfl ⟨hI11, ⟨by omega, by omega⟩, (Or.inl (by omega)), hB11, hF _ rfl⟩
end
