-- reading a condition: its steps
def pdq (z x : Int) : Prop := z = x / 1048576
def pj5 (x : Int) : Prop := (x / 1048576 = 11 ∨ x / 1048576 = 12) ∧ 0 ≤ x
theorem pj5.d {x z : Int} (h : pj5 x) (hx : x ≤ 2147483647) (hz : iDiv x 1048576 = z) : pdq z x ∧ (11 ≤ z ∧ z ≤ 12) := by
  have e : z = x / 1048576 := hz.symm.trans (iDiv_p ⟨h.2, hx⟩ (by omega))
  refine ⟨e, ?_⟩
  rcases h.1 with q | q <;> rw [e, q] <;> exact ⟨by decide, by decide⟩
def FrC (f : Int) (V u : Nat → Nat → Int) : Prop := (∀ k : Nat, (k : Int) < f → u 5 k = V 5 k) ∧ u 0 6 = V 0 6 ∧ u 0 12 = V 0 12 ∧ (∀ i : Nat, i ≠ 0 → i ≠ 5 → i ≠ 6 → u i = V i) ∧ V 0 5 ≤ u 0 5
theorem FrC.rf {f : Int} {V : Nat → Nat → Int} : FrC f V V := ⟨fun _ _ => rfl, rfl, rfl, fun _ _ _ _ => rfl, Int.le_refl _⟩
theorem FrC.tr {f : Int} {V W u : Nat → Nat → Int} (h : FrC f V W) (k : FrC f W u) : FrC f V u := ⟨fun q hq => (k.1 q hq).trans (h.1 q hq), k.2.1.trans h.2.1, k.2.2.1.trans h.2.2.1, fun i a b c => (k.2.2.2.1 i a b c).trans (h.2.2.2.1 i a b c), Int.le_trans h.2.2.2.2 k.2.2.2.2⟩
theorem FrS.toC {b c0 f : Int} {V u : Nat → Nat → Int} (h : FrS b c0 V u) (hf : f ≤ c0) : FrC f V u := ⟨fun k hk => h.1 k (Int.lt_of_lt_of_le hk hf), h.2.2.1, h.2.2.2.1, h.2.2.2.2.1, h.2.2.2.2.2⟩
theorem CI.fl {f d e : Int} {V : Nat → Nat → Int} (h : CI f d e V) : 0 ≤ f ∧ f ≤ V 0 10 := ⟨h.1, h.2.1⟩
theorem CI.cp {f d e : Int} {V : Nat → Nat → Int} (h : CI f d e V) : V 0 10 ≤ V 0 5 := by
  have := pnt_nn (V 6) (V 0 11).toNat
  obtain ⟨a1, a2, a3, a4, -⟩ := h
  omega
def pQ (f d e : Int) (V u : Nat → Nat → Int) : Prop := CI f d e u ∧ PG u ∧ FrC f V u ∧ 0 < u 0 11
theorem pQ.tr {f d e : Int} {V W u : Nat → Nat → Int} (hf : FrC f V W) (h : pQ f d e W u) : pQ f d e V u := ⟨h.1, h.2.1, hf.tr h.2.2.1, h.2.2.2⟩
theorem sumC {f d e : Int} {V u : Nat → Nat → Int} (hC : CI f d e V) (he : 0 ≤ e) (h0 : 0 < V 0 11) (h : pSum V u) : pQ f d (e + 1) V u := by
  obtain ⟨h1, h2, h3, h4, h5, h6, h7⟩ := h
  exact ⟨hC.sum he h1 h2 h6.1 h6.2.1 h3 h4, h5, h6.toC hC.fl.2, by rw [h3]; exact h0⟩
theorem sgnC {f e : Int} {V u : Nat → Nat → Int} (hC : CI f 0 e V) (hP : PG V) (h0 : 0 < V 0 11) (hlt : V 0 5 < V 0 6) (hu : u = up2 V 0 5 (V 0 5 + 1)) : pQ f 1 e V u := by
  have u5 : u 5 = V 5 := by rw [hu, up0r (by omega)]
  have u6 : u 6 = V 6 := by rw [hu, up0r (by omega)]
  have ui : ∀ i : Nat, i ≠ 0 → u i = V i := fun i hi => by rw [hu, up0r hi]
  have uo : ∀ k : Nat, k ≠ 5 → u 0 k = V 0 k := fun k hk => by rw [hu, up0 (Or.inr hk)]
  have up : u 0 5 = V 0 5 + 1 := by rw [hu, up2_s]
  have o6 := uo 6 (by omega)
  have o11 := uo 11 (by omega)
  have o10 := uo 10 (by omega)
  have o12 := uo 12 (by omega)
  clear hu
  have hP' := hP
  obtain ⟨p1, p2, p3, p4, p5, p6⟩ := hP
  exact ⟨hC.slack u5 u6 o10 o11 (by omega) (by omega), hP'.mk (by omega) (by omega) o6 ⟨by omega, by omega⟩ (by omega), ⟨fun k _ => by rw [u5], o6, o12, fun i i1 _ _ => ui i i1, by omega⟩, by omega⟩
theorem binC {f : Int} {V u : Nat → Nat → Int} {w : Int} (hC : CI f 1 2 V) (hP : PG V) (h0 : 0 < V 0 11) (hw : 7 ≤ w ∧ w ≤ 9) (hu : u = up2 (up2 V 5 (V 0 10).toNat (1048576 * w + 0)) 0 10 (V 0 10 + 1)) : pQ f 0 1 V u := by
  have u5 : ∀ k : Nat, u 5 k = if k = (V 0 10).toNat then 1048576 * w + 0 else V 5 k := by
    intro k
    rw [hu, up0 (Or.inl (by omega))]
    by_cases q : k = (V 0 10).toNat
    · subst q; rw [up2_s, if_pos rfl]
    · rw [up2_n _ _ (Or.inr q), if_neg q]
  have u6 : u 6 = V 6 := by rw [hu, up0r (by omega), up2_c _ _ (by omega)]
  have ui : ∀ i : Nat, i ≠ 0 → i ≠ 5 → u i = V i := fun i hi h5 => by rw [hu, up0r hi, up2_c _ _ h5]
  have uo : ∀ k : Nat, k ≠ 10 → u 0 k = V 0 k := fun k hk => by rw [hu, up0 (Or.inr hk), up2_n _ _ (Or.inl (by omega))]
  have u10 : u 0 10 = V 0 10 + 1 := by rw [hu, up2_s]
  have o5 := uo 5 (by omega)
  have o6 := uo 6 (by omega)
  have o11 := uo 11 (by omega)
  have o12 := uo 12 (by omega)
  have fl := hC.fl
  clear hu
  have hw2 : 0 ≤ 1048576 * w + 0 ∧ ((1048576 * w + 0) / 1048576 = 10 ∧ (1 : Int) ≤ 2 ∧ (1 : Int) = 2 ∨ 2 ≤ (1048576 * w + 0) / 1048576 ∧ (1048576 * w + 0) / 1048576 ≤ 9 ∧ (2 : Int) ≤ 2 ∧ (1 : Int) = 2 - 1) := by
    clear u5 u6 ui uo u10 o5 o6 o11 o12 fl hC hP h0
    exact ⟨by omega, Or.inr ⟨by omega, by omega, by omega, by omega⟩⟩
  have hP' := hP
  obtain ⟨p1, p2, p3, p4, p5, p6⟩ := hP
  exact ⟨hC.note hw2 u5 u6 u10 o11 (Int.le_refl _) (by clear hw2; omega), hP'.mk (by clear hw2; omega) (by clear hw2; omega) o6 ⟨by clear hw2; omega, by clear hw2; omega⟩ (by clear hw2; omega), ⟨fun k hk => by rw [u5, if_neg (by clear hw2; omega)], o6, o12, fun i i1 i2 _ => ui i i1 i2, by clear hw2; omega⟩, by clear hw2; omega⟩
theorem opnC {f d e : Int} {V u : Nat → Nat → Int} {o x : Int} (hC : CI f d e V) (hP : PG V) (hlt : V 0 5 < V 0 6) (hx : pdv x = 13 ∨ (pdv x = 10 ∧ 0 < V 0 11)) (hu : u = up2 (up2 (up2 (up2 V 0 9 o) 6 (V 0 11).toNat x) 0 11 (V 0 11 + 1)) 0 5 (V 0 5 + 1)) : pQ f d e V u ∧ V 0 5 < u 0 5 := by
  have u5 : u 5 = V 5 := by rw [hu, up0r (by omega), up0r (by omega), up2_c _ _ (by omega), up0r (by omega)]
  have u6 : ∀ k : Nat, u 6 k = if k = (V 0 11).toNat then x else V 6 k := by
    intro k
    rw [hu, up0 (Or.inl (by omega)), up0 (Or.inl (by omega))]
    by_cases q : k = (V 0 11).toNat
    · subst q; rw [up2_s, if_pos rfl]
    · rw [up2_n _ _ (Or.inr q), up0 (Or.inl (by omega)), if_neg q]
  have ui : ∀ i : Nat, i ≠ 0 → i ≠ 6 → u i = V i := fun i i1 i3 => by rw [hu, up0r i1, up0r i1, up2_c _ _ i3, up0r i1]
  have u11 : u 0 11 = V 0 11 + 1 := by rw [hu, up0 (Or.inr (by omega)), up2_s]
  have up : u 0 5 = V 0 5 + 1 := by rw [hu, up2_s]
  have uo : ∀ k : Nat, k ≠ 5 → k ≠ 9 → k ≠ 11 → u 0 k = V 0 k := fun k k1 k2 k3 => by rw [hu, up0 (Or.inr k1), up0 (Or.inr k3), up2_n _ _ (Or.inl (by omega)), up0 (Or.inr k2)]
  have o6 := uo 6 (by omega) (by omega) (by omega)
  have o10 := uo 10 (by omega) (by omega) (by omega)
  have o12 := uo 12 (by omega) (by omega) (by omega)
  clear hu
  have hP' := hP
  obtain ⟨p1, p2, p3, p4, p5, p6⟩ := hP
  exact ⟨⟨hC.opn hx u5 u6 o10 u11 up, hP'.mk (by omega) (by omega) o6 ⟨by omega, by omega⟩ (by omega), ⟨fun k _ => by rw [u5], o6, o12, fun i i1 _ i3 => ui i i1 i3, by omega⟩, by omega⟩, by omega⟩
/-- endsPiece, lands: so far -/
def pEC (f d : Int) (V u : Nat → Nat → Int) : Prop := pQ f d 1 V u ∧ u 0 5 = V 0 5 ∧ u 0 11 ≤ V 0 11
theorem pEC.rf {f d : Int} {V : Nat → Nat → Int} (hC : CI f d 1 V) (hP : PG V) (h0 : 0 < V 0 11) : pEC f d V V := ⟨⟨hC, hP, FrC.rf, h0⟩, rfl, Int.le_refl _⟩
theorem CI.w0 {f d e : Int} {V : Nat → Nat → Int} (h : CI f d e V) (h0 : 0 < V 0 11) (ht : ¬ ptop V = 13) : 1 < V 0 11 := by
  have h6 := h.2.2.2.2.2.1 h0
  by_cases q : V 0 11 = 1
  · exfalso
    apply ht
    rw [ptop, if_neg (by omega), q]
    exact h6
  · omega
theorem pEC.endp {f d : Int} {V W u : Nat → Nat → Int} {o : Int} (h : pEC f d V W) (ht : ptop W = 10) (hu : u = up2 (up2 (up2 (up2 W 5 (W 0 10).toNat (1048576 * 10 + 0)) 0 10 (W 0 10 + 1)) 0 11 (W 0 11 - 1)) 0 9 o) : pEC f d V u := by
  obtain ⟨⟨hC, hP, hF, h0⟩, h5, hle⟩ := h
  have w1 := hC.w0 h0 (by rw [ht]; decide)
  have t1 := (ptop_n (V := W) (by rw [ht]; decide)).2
  rw [ht] at t1
  have fl := hC.fl
  have u5 : ∀ k : Nat, u 5 k = if k = (W 0 10).toNat then 1048576 * 10 + 0 else W 5 k := by
    intro k
    rw [hu, up0 (Or.inl (by omega)), up0 (Or.inl (by omega)), up0 (Or.inl (by omega))]
    by_cases q : k = (W 0 10).toNat
    · subst q; rw [up2_s, if_pos rfl]
    · rw [up2_n _ _ (Or.inr q), if_neg q]
  have u6 : u 6 = W 6 := by rw [hu, up0r (by omega), up0r (by omega), up0r (by omega), up2_c _ _ (by omega)]
  have ui : ∀ i : Nat, i ≠ 0 → i ≠ 5 → u i = W i := fun i hi hi5 => by rw [hu, up0r hi, up0r hi, up0r hi, up2_c _ _ hi5]
  have uo : ∀ k : Nat, k ≠ 9 → k ≠ 10 → k ≠ 11 → u 0 k = W 0 k := fun k k1 k2 k3 => by rw [hu, up0 (Or.inr k1), up0 (Or.inr k3), up0 (Or.inr k2), up2_n _ _ (Or.inl (by omega))]
  have u10 : u 0 10 = W 0 10 + 1 := by rw [hu, up0 (Or.inr (by omega)), up0 (Or.inr (by omega)), up2_s]
  have u11 : u 0 11 = W 0 11 - 1 := by rw [hu, up0 (Or.inr (by omega)), up2_s]
  have o5 := uo 5 (by omega) (by omega) (by omega)
  have o6 := uo 6 (by omega) (by omega) (by omega)
  have o12 := uo 12 (by omega) (by omega) (by omega)
  clear hu
  have c1 : CI f (d + 1) 1 (up2 W 0 11 (W 0 11 - 1)) := by
    have hd : 0 ≤ d := hC.2.2.1
    refine hC.pop h0 ?_ (up0r (by omega)) (up0r (by omega)) (up0 (Or.inr (by omega))) (up2_s _ _ _ _) (by omega) (Or.inr ⟨t1.symm, ?_⟩)
    · rw [← t1]; unfold pjm; omega
    · rw [up0 (Or.inr (by omega))]; omega
  have hw2 : (0 : Int) ≤ 1048576 * 10 + 0 ∧ ((1048576 * 10 + 0 : Int) / 1048576 = 10 ∧ (1 : Int) ≤ 1 ∧ (1 : Int) = 1 ∨ 2 ≤ (1048576 * 10 + 0 : Int) / 1048576 ∧ (1048576 * 10 + 0 : Int) / 1048576 ≤ 9 ∧ (2 : Int) ≤ 1 ∧ (1 : Int) = 1 - 1) := ⟨by omega, Or.inl ⟨by omega, by omega, rfl⟩⟩
  have hd : 0 ≤ d := hC.2.2.1
  have c2 : CI f d 1 u := c1.note hw2 (fun k => by rw [u5, up0 (Or.inr (by omega)), up0 (Or.inl (by omega))]) (by rw [u6, up0r (by omega)]) (by rw [u10, up0 (Or.inr (by omega))]) (by rw [u11, up2_s]) hd (by clear hw2; rw [up0 (Or.inr (by omega))]; omega)
  clear hw2 c1
  have hP' := hP
  obtain ⟨p1, p2, p3, p4, p5, p6⟩ := hP
  exact ⟨⟨c2, hP'.mk (by omega) (by omega) o6 ⟨by omega, by omega⟩ (by omega), hF.tr ⟨fun k hk => by rw [u5, if_neg (by omega)], o6, o12, fun i i1 i2 _ => ui i i1 i2, by omega⟩, by omega⟩, by omega, by omega⟩
theorem CI.jq {f d e : Int} {V : Nat → Nat → Int} (h : CI f d e V) (h0 : 0 < V 0 11) (hx : pjm (ptop V)) : f ≤ prm (V 6 (V 0 11 - 1).toNat) ∧ prm (V 6 (V 0 11 - 1).toNat) < V 0 10 ∧ pj5 (V 5 (prm (V 6 (V 0 11 - 1).toNat)).toNat) := by
  obtain ⟨a1, a2, a3, a4, a5, a6, a7, g, g0, g1, g2⟩ := h
  have t := (ptop_n (V := V) (by unfold pjm at hx; omega)).2
  rw [t] at hx
  have k := a7 (V 0 11 - 1).toNat (by omega)
  unfold pen at k
  have hx2 := hx
  unfold pjm at hx2
  rcases k with k | k | k
  · exact absurd k (by omega)
  · exact absurd k (by omega)
  · exact ⟨k.2.1, k.2.2.1, ⟨k.2.2.2, (g2 _ k.2.1 k.2.2.1).1⟩⟩
theorem pEC.lnd {f d : Int} {V W u : Nat → Nat → Int} {q : Nat} {wd : Int} (h : pEC f d V W) (ht : pjm (ptop W)) (hq : (q : Int) = prm (W 6 (W 0 11 - 1).toNat)) (hwd : wd = 1048576 * (W 5 q / 1048576) + W 0 10) (hu : u = up2 (up2 W 5 q wd) 0 11 (W 0 11 - 1)) : pEC f d V u := by
  obtain ⟨⟨hC, hP, hF, h0⟩, h5, hle⟩ := h
  have w1 := hC.w0 h0 (by unfold pjm at ht; omega)
  have j := hC.jq h0 ht
  rw [← hq] at j
  have t1 := (ptop_n (V := W) (by unfold pjm at ht; omega)).2
  rw [t1] at ht
  have c200 := (hC.c200 hP).1
  have u5 : ∀ k : Nat, u 5 k = if k = q then wd else W 5 k := by
    intro k
    rw [hu, up0 (Or.inl (by omega))]
    by_cases e : k = q
    · subst e; rw [up2_s, if_pos rfl]
    · rw [up2_n _ _ (Or.inr e), if_neg e]
  have u6 : u 6 = W 6 := by rw [hu, up0r (by omega), up2_c _ _ (by omega)]
  have ui : ∀ i : Nat, i ≠ 0 → i ≠ 5 → u i = W i := fun i hi hi5 => by rw [hu, up0r hi, up2_c _ _ hi5]
  have uo : ∀ k : Nat, k ≠ 11 → u 0 k = W 0 k := fun k k3 => by rw [hu, up0 (Or.inr k3), up2_n _ _ (Or.inl (by omega))]
  have u11 : u 0 11 = W 0 11 - 1 := by rw [hu, up2_s]
  have o5 := uo 5 (by omega)
  have o6 := uo 6 (by omega)
  have o10 := uo 10 (by omega)
  have o12 := uo 12 (by omega)
  clear hu
  have j1 := j.1
  clear j t1
  have c2 : CI f d 1 u := hC.land h0 (by clear hwd; omega) ht hq hwd u5 u6 o10 u11 o5
  clear hwd
  have hP' := hP
  obtain ⟨p1, p2, p3, p4, p5, p6⟩ := hP
  exact ⟨⟨c2, hP'.mk (by omega) (by omega) o6 ⟨by omega, by omega⟩ (by omega), hF.tr ⟨fun k hk => by rw [u5, if_neg (by omega)], o6, o12, fun i i1 i2 _ => ui i i1 i2, by omega⟩, by omega⟩, by omega, by omega⟩
theorem jmpC {f d : Int} {V u : Nat → Nat → Int} {op : Int} (hC : CI f d 1 V) (hP : PG V) (h0 : 0 < V 0 11) (hlt : V 0 5 < V 0 6) (ho : pjm op) (hu : u = up2 (up2 (up2 (up2 (up2 V 6 (V 0 11).toNat (1048576 * op + V 0 10)) 0 11 (V 0 11 + 1)) 5 (V 0 10).toNat (1048576 * op + 0)) 0 10 (V 0 10 + 1)) 0 5 (V 0 5 + 1)) : pQ f d 0 V u ∧ V 0 5 < u 0 5 := by
  have c200 := (hC.c200 hP).1
  have fl := hC.fl
  have u5 : ∀ k : Nat, u 5 k = if k = (V 0 10).toNat then 1048576 * op else V 5 k := by
    intro k
    rw [hu, up0 (Or.inl (by omega)), up0 (Or.inl (by omega))]
    by_cases q : k = (V 0 10).toNat
    · subst q; rw [up2_s, if_pos rfl, Int.add_zero]
    · rw [up2_n _ _ (Or.inr q), if_neg q, up0 (Or.inl (by omega)), up2_n _ _ (Or.inl (by omega))]
  have u6 : ∀ k : Nat, u 6 k = if k = (V 0 11).toNat then 1048576 * op + V 0 10 else V 6 k := by
    intro k
    rw [hu, up0 (Or.inl (by omega)), up0 (Or.inl (by omega)), up2_n _ _ (Or.inl (by omega)), up0 (Or.inl (by omega))]
    by_cases q : k = (V 0 11).toNat
    · subst q; rw [up2_s, if_pos rfl]
    · rw [up2_n _ _ (Or.inr q), if_neg q]
  have ui : ∀ i : Nat, i ≠ 0 → i ≠ 5 → i ≠ 6 → u i = V i := fun i i1 i2 i3 => by rw [hu, up0r i1, up0r i1, up2_c _ _ i2, up0r i1, up2_c _ _ i3]
  have uo : ∀ k : Nat, k ≠ 5 → k ≠ 10 → k ≠ 11 → u 0 k = V 0 k := fun k k1 k2 k3 => by rw [hu, up0 (Or.inr k1), up0 (Or.inr k2), up2_n _ _ (Or.inl (by omega)), up0 (Or.inr k3), up2_n _ _ (Or.inl (by omega))]
  have u10 : u 0 10 = V 0 10 + 1 := by rw [hu, up0 (Or.inr (by omega)), up2_s]
  have u11 : u 0 11 = V 0 11 + 1 := by rw [hu, up0 (Or.inr (by omega)), up0 (Or.inr (by omega)), up2_n _ _ (Or.inl (by omega)), up2_s]
  have up : u 0 5 = V 0 5 + 1 := by rw [hu, up2_s]
  have o6 := uo 6 (by omega) (by omega) (by omega)
  have o12 := uo 12 (by omega) (by omega) (by omega)
  clear hu
  have c2 := hC.jump (by omega) h0 ho u5 u6 u10 u11 up
  have hP' := hP
  obtain ⟨p1, p2, p3, p4, p5, p6⟩ := hP
  exact ⟨⟨c2, hP'.mk (by omega) (by omega) o6 ⟨by omega, by omega⟩ (by omega), ⟨fun k hk => by rw [u5, if_neg (by omega)], o6, o12, ui, by omega⟩, by omega⟩, by omega⟩
/-- a bracket ends -/
theorem clsC {f : Int} {V u : Nat → Nat → Int} {o : Int} (hC : CI f 0 1 V) (hP : PG V) (h0 : 0 < V 0 11) (hlt : V 0 5 < V 0 6) (ht : ¬ pjm (ptop V)) (hu : u = up2 (up2 (up2 V 0 11 (V 0 11 - 1)) 0 9 o) 0 5 (V 0 5 + 1)) : CI f 0 1 u ∧ PG u ∧ FrC f V u ∧ u 0 5 = V 0 5 + 1 ∧ u 0 11 = V 0 11 - 1 := by
  have u5 : u 5 = V 5 := by rw [hu, up0r (by omega), up0r (by omega), up0r (by omega)]
  have u6 : u 6 = V 6 := by rw [hu, up0r (by omega), up0r (by omega), up0r (by omega)]
  have ui : ∀ i : Nat, i ≠ 0 → u i = V i := fun i hi => by rw [hu, up0r hi, up0r hi, up0r hi]
  have u11 : u 0 11 = V 0 11 - 1 := by rw [hu, up0 (Or.inr (by omega)), up0 (Or.inr (by omega)), up2_s]
  have up : u 0 5 = V 0 5 + 1 := by rw [hu, up2_s]
  have uo : ∀ k : Nat, k ≠ 5 → k ≠ 9 → k ≠ 11 → u 0 k = V 0 k := fun k k1 k2 k3 => by rw [hu, up0 (Or.inr k1), up0 (Or.inr k2), up0 (Or.inr k3)]
  have o10 := uo 10 (by omega) (by omega) (by omega)
  have o6 := uo 6 (by omega) (by omega) (by omega)
  have o12 := uo 12 (by omega) (by omega) (by omega)
  clear hu
  have t1 : ptop V = pdv (V 6 (V 0 11 - 1).toNat) := by rw [ptop, if_neg (by omega)]
  rw [t1] at ht
  have c2 : CI f 0 1 u := hC.pop h0 ht u5 u6 o10 u11 (Int.le_refl _) (Or.inl (by omega))
  have hP' := hP
  obtain ⟨p1, p2, p3, p4, p5, p6⟩ := hP
  exact ⟨c2, hP'.mk (by omega) (by omega) o6 ⟨by omega, by omega⟩ (by omega), ⟨fun k _ => by rw [u5], o6, o12, fun i i1 _ _ => ui i i1, by omega⟩, up, u11⟩
/-- a condition was read -/
def pCond (V u : Nat → Nat → Int) : Prop := xTyp (u 5) 0 (V 0 10) (u 0 10) ∧ V 0 10 ≤ u 0 10 ∧ u 0 10 ≤ u 0 5 ∧ PG u ∧ FrC (V 0 10) V u
theorem pCond.mk {V u : Nat → Nat → Int} (hC : CI (V 0 10) 0 1 u) (hP : PG u) (hF : FrC (V 0 10) V u) (h0 : u 0 11 = 0) : pCond V u := ⟨hC.typ h0, hC.fl.2, hC.cp, hP, hF⟩
/-- a condition begins -/
theorem begC {V u : Nat → Nat → Int} {o : Int} (hP : PG V) (hc : V 0 10 ≤ V 0 5) (hu : u = up2 (up2 V 0 9 o) 0 11 0) : CI (V 0 10) 0 0 u ∧ PG u ∧ FrC (V 0 10) V u := by
  have ui : ∀ i : Nat, i ≠ 0 → u i = V i := fun i hi => by rw [hu, up0r hi, up0r hi]
  have u11 : u 0 11 = 0 := by rw [hu, up2_s]
  have uo : ∀ k : Nat, k ≠ 9 → k ≠ 11 → u 0 k = V 0 k := fun k k2 k3 => by rw [hu, up0 (Or.inr k3), up0 (Or.inr k2)]
  have o10 := uo 10 (by omega) (by omega)
  have o5 := uo 5 (by omega) (by omega)
  have o6 := uo 6 (by omega) (by omega)
  have o12 := uo 12 (by omega) (by omega)
  clear hu
  have hP' := hP
  obtain ⟨p1, p2, p3, p4, p5, p6⟩ := hP
  have c := CI.start (V := u) u11 ⟨by omega, by omega⟩
  rw [o10] at c
  exact ⟨c, hP'.mk (by omega) (by omega) o6 ⟨by omega, by omega⟩ (by omega), ⟨fun k _ => by rw [ui 5 (by omega)], o6, o12, fun i i1 _ _ => ui i i1, by omega⟩⟩
