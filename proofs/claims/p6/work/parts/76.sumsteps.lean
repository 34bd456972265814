-- reading a sum: its steps
theorem pdv_m0 {s : Int} (hs : 0 ≤ s ∧ s ≤ 14) : pdv (1048576 * s) = s := by
  have := pdv_m hs (v := 0) (by omega)
  rw [Int.add_zero] at this
  exact this
theorem PG.mk {V u : Nat → Nat → Int} (h : PG V) (h5 : V 0 5 ≤ u 0 5) (h56 : u 0 5 ≤ u 0 6) (h6 : u 0 6 = V 0 6) (h11 : 0 ≤ u 0 11 ∧ u 0 11 ≤ u 0 5) (h10 : 0 ≤ u 0 10) : PG u := by
  obtain ⟨p1, p2, p3, p4, p5, p6⟩ := h
  exact ⟨by omega, h56, by omega, h11.1, h11.2, h10⟩
def pFac (b c0 d e : Int) (V u : Nat → Nat → Int) : Prop := SI b c0 d e u ∧ PG u ∧ FrS b c0 V u ∧ V 0 5 < u 0 5
theorem pFac.tr {b c0 d e : Int} {V W u : Nat → Nat → Int} (hf : FrS b c0 V W) (h : pFac b c0 d e W u) : pFac b c0 d e V u := ⟨h.1, h.2.1, hf.tr h.2.2.1, Int.lt_of_le_of_lt hf.2.2.2.2.2 h.2.2.2⟩
theorem SI.le {b c0 d e : Int} {V : Nat → Nat → Int} (h : SI b c0 d e V) : b ≤ V 0 11 ∧ c0 ≤ V 0 10 ∧ 0 ≤ b ∧ 0 ≤ c0 ∧ V 0 10 + (V 0 11 - b) + d ≤ V 0 5 := ⟨h.2.1, h.2.2.2.1, h.1, h.2.2.1, h.2.2.2.2.1⟩
theorem pushS {b c0 d e e2 : Int} {V u : Nat → Nat → Int} {x : Int} (h : SI b c0 d e V) (hP : PG V) (hlt : V 0 5 < V 0 6) (hx : (pio x ∧ e = e2 + 1) ∨ (pdv x = 14 ∧ e = e2)) (h5 : u 5 = V 5) (h6 : ∀ k : Nat, u 6 k = if k = (V 0 11).toNat then x else V 6 k) (h11 : u 0 11 = V 0 11 + 1) (hp : u 0 5 = V 0 5 + 1) (ho : ∀ k : Nat, k ≠ 5 → k ≠ 9 → k ≠ 11 → u 0 k = V 0 k) (hr : ∀ i : Nat, i ≠ 0 → i ≠ 5 → i ≠ 6 → u i = V i) : pFac b c0 d e2 V u := by
  have a := h.le
  have o10 := ho 10 (by omega) (by omega) (by omega)
  have o6 := ho 6 (by omega) (by omega) (by omega)
  have o12 := ho 12 (by omega) (by omega) (by omega)
  have hP' := hP
  obtain ⟨p1, p2, p3, p4, p5, p6⟩ := hP
  exact ⟨h.push hx h5 h6 o10 h11 hp, hP'.mk (by omega) (by omega) o6 ⟨by omega, by omega⟩ (by omega), ⟨fun k _ => by rw [h5], fun k hk => by rw [h6, if_neg (by omega)], o6, o12, hr, by omega⟩, by omega⟩
theorem opnS {b c0 d e : Int} {V u : Nat → Nat → Int} {o x : Int} (h : SI b c0 d e V) (hP : PG V) (hlt : V 0 5 < V 0 6) (hx : pdv x = 14) (hu : u = up2 (up2 (up2 (up2 V 0 9 o) 6 (V 0 11).toNat x) 0 11 (V 0 11 + 1)) 0 5 (V 0 5 + 1)) : pFac b c0 d e V u := by
  subst hu
  refine pushS h hP hlt (Or.inr ⟨hx, rfl⟩) ?_ (fun k => ?_) ?_ ?_ (fun k k1 k2 k3 => ?_) (fun i i1 i2 i3 => ?_)
  · rw [up0r (by omega), up0r (by omega), up2_c _ _ (by omega), up0r (by omega)]
  · rw [up0 (Or.inl (by omega)), up0 (Or.inl (by omega))]
    by_cases q : k = (V 0 11).toNat
    · subst q; rw [up2_s, if_pos rfl]
    · rw [up2_n _ _ (Or.inr q), up0 (Or.inl (by omega)), if_neg q]
  · rw [up0 (Or.inr (by omega)), up2_s]
  · rw [up2_s]
  · rw [up0 (Or.inr k1), up0 (Or.inr k3), up2_n _ _ (Or.inl (by omega)), up0 (Or.inr k2)]
  · rw [up0r i1, up0r i1, up2_c _ _ i3, up0r i1]
theorem signS {b c0 d : Int} {V u : Nat → Nat → Int} {x : Int} (h : SI b c0 d 1 V) (hP : PG V) (hlt : V 0 5 < V 0 6) (hx : pio x) (hu : u = up2 (up2 (up2 V 6 (V 0 11).toNat x) 0 11 (V 0 11 + 1)) 0 5 (V 0 5 + 1)) : pFac b c0 d 0 V u := by
  subst hu
  refine pushS h hP hlt (Or.inl ⟨hx, rfl⟩) ?_ (fun k => ?_) ?_ ?_ (fun k k1 k2 k3 => ?_) (fun i i1 i2 i3 => ?_)
  · rw [up0r (by omega), up0r (by omega), up2_c _ _ (by omega)]
  · rw [up0 (Or.inl (by omega)), up0 (Or.inl (by omega))]
    by_cases q : k = (V 0 11).toNat
    · subst q; rw [up2_s, if_pos rfl]
    · rw [up2_n _ _ (Or.inr q), if_neg q]
  · rw [up0 (Or.inr (by omega)), up2_s]
  · rw [up2_s]
  · rw [up0 (Or.inr k1), up0 (Or.inr k3), up2_n _ _ (Or.inl (by omega))]
  · rw [up0r i1, up0r i1, up2_c _ _ i3]
theorem popS {b c0 d : Int} {V u : Nat → Nat → Int} {o : Int} (h : SI b c0 d 1 V) (hP : PG V) (hlt : V 0 5 < V 0 6) (hgt : b < V 0 11) (ht : pdv (V 6 (V 0 11 - 1).toNat) = 14) (hu : u = up2 (up2 (up2 V 0 11 (V 0 11 - 1)) 0 9 o) 0 5 (V 0 5 + 1)) : pFac b c0 d 1 V u := by
  have a := h.le
  have u5 : u 5 = V 5 := by rw [hu, up0r (by omega), up0r (by omega), up0r (by omega)]
  have u6 : u 6 = V 6 := by rw [hu, up0r (by omega), up0r (by omega), up0r (by omega)]
  have ui : ∀ i : Nat, i ≠ 0 → u i = V i := fun i hi => by rw [hu, up0r hi, up0r hi, up0r hi]
  have u11 : u 0 11 = V 0 11 - 1 := by rw [hu, up0 (Or.inr (by omega)), up0 (Or.inr (by omega)), up2_s]
  have up : u 0 5 = V 0 5 + 1 := by rw [hu, up2_s]
  have uo : ∀ k : Nat, k ≠ 5 → k ≠ 9 → k ≠ 11 → u 0 k = V 0 k := fun k k1 k2 k3 => by rw [hu, up0 (Or.inr k1), up0 (Or.inr k2), up0 (Or.inr k3)]
  have o10 := uo 10 (by omega) (by omega) (by omega)
  have o6 := uo 6 (by omega) (by omega) (by omega)
  have o12 := uo 12 (by omega) (by omega) (by omega)
  clear hu
  have hP' := hP
  obtain ⟨p1, p2, p3, p4, p5, p6⟩ := hP
  exact ⟨h.pop14 ht hgt u5 u6 o10 u11 (by omega), hP'.mk (by omega) (by omega) o6 ⟨by omega, by omega⟩ (by omega), ⟨fun k _ => by rw [u5], fun k _ => by rw [u6], o6, o12, fun i i1 _ _ => ui i i1, by omega⟩, by omega⟩
theorem noteS {b c0 d : Int} {V u : Nat → Nat → Int} {w : Int} (h : SI b c0 d 0 V) (hP : PG V) (hw : 0 ≤ w ∧ (w / 1048576 = 0 ∨ (w / 1048576 = 1 ∧ w % 1048576 ≤ 12))) (h5 : ∀ k : Nat, u 5 k = if k = (V 0 10).toNat then w else V 5 k) (h6 : u 6 = V 6) (h10 : u 0 10 = V 0 10 + 1) (h11 : u 0 11 = V 0 11) (hp : V 0 5 < u 0 5) (h56 : u 0 5 ≤ u 0 6) (ho6 : u 0 6 = V 0 6) (ho12 : u 0 12 = V 0 12) (hr : ∀ i : Nat, i ≠ 0 → i ≠ 5 → i ≠ 6 → u i = V i) : pFac b c0 d 1 V u := by
  have a := h.le
  have hn := pcn_nn (V 6) b.toNat (V 0 11 - b).toNat
  have hP' := hP
  obtain ⟨p1, p2, p3, p4, p5, p6⟩ := hP
  refine ⟨SI.note h rfl h5 h6 h10 h11 (by clear hw; omega) ⟨hw.1, by clear hw; omega, by clear hw; omega, ?_⟩, hP'.mk (by clear hw; omega) h56 ho6 ⟨by clear hw; omega, by clear hw; omega⟩ (by clear hw; omega), ⟨fun k hk => by rw [h5, if_neg (by clear hw; omega)], fun k _ => by rw [h6], ho6, ho12, hr, by clear hw; omega⟩, hp⟩
  rcases hw.2 with q | q
  · exact Or.inl ⟨q, by clear hw q; omega⟩
  · exact Or.inr (Or.inl ⟨q.1, q.2, by clear hw q; omega⟩)
theorem facNum {b c0 d : Int} {V W u : Nat → Nat → Int} {v : Int} (h : SI b c0 d 0 V) (hP : PG V) (hfr : ∀ i k : Nat, (i ≠ 0 ∨ (k ≠ 5 ∧ k ≠ 7 ∧ k ≠ 8)) → W i k = V i k) (hlt : V 0 5 < W 0 5) (h56 : W 0 5 ≤ W 0 6) (hv : 0 ≤ v ∧ v ≤ 99999) (hu : u = up2 (up2 W 5 (W 0 10).toNat (1048576 * 0 + v)) 0 10 (W 0 10 + 1)) : pFac b c0 d 1 V u := by
  have o : ∀ k : Nat, k ≠ 5 → k ≠ 7 → k ≠ 8 → k ≠ 10 → u 0 k = V 0 k := fun k k1 k2 k3 k4 => by rw [hu, up0 (Or.inr k4), up2_n _ _ (Or.inl (by omega)), hfr 0 k (Or.inr ⟨k1, k2, k3⟩)]
  have w10 : W 0 10 = V 0 10 := hfr 0 10 (Or.inr (by omega))
  have w5 : u 0 5 = W 0 5 := by rw [hu, up0 (Or.inr (by omega)), up2_n _ _ (Or.inl (by omega))]
  have w6 : u 0 6 = W 0 6 := by rw [hu, up0 (Or.inr (by omega)), up2_n _ _ (Or.inl (by omega))]
  refine noteS (w := 1048576 * 0 + v) h hP ⟨by omega, Or.inl (by omega)⟩ (fun k => ?_) ?_ ?_ (o 11 (by omega) (by omega) (by omega) (by omega)) (by rw [w5]; exact hlt) (by rw [w5, w6]; exact h56) (o 6 (by omega) (by omega) (by omega) (by omega)) (o 12 (by omega) (by omega) (by omega) (by omega)) (fun i i1 i2 i3 => ?_)
  · rw [hu, up0 (Or.inl (by omega)), w10]
    by_cases q : k = (V 0 10).toNat
    · subst q; rw [up2_s, if_pos rfl]
    · rw [up2_n _ _ (Or.inr q), if_neg q, hfr 5 k (Or.inl (by omega))]
  · rw [hu, up0r (by omega), up2_c _ _ (by omega)]; funext k; exact hfr 6 k (Or.inl (by omega))
  · rw [hu, up2_s, w10]
  · rw [hu, up0r i1, up2_c _ _ i2]; funext k; exact hfr i k (Or.inl i1)
theorem facLet {b c0 d : Int} {V u : Nat → Nat → Int} {v : Int} (h : SI b c0 d 0 V) (hP : PG V) (hlt : V 0 5 < V 0 6) (hv : 0 ≤ v ∧ v ≤ 12) (hu : u = up2 (up2 (up2 V 5 (V 0 10).toNat (1048576 * 1 + v)) 0 10 (V 0 10 + 1)) 0 5 (V 0 5 + 1)) : pFac b c0 d 1 V u := by
  have o : ∀ k : Nat, k ≠ 5 → k ≠ 10 → u 0 k = V 0 k := fun k k1 k4 => by rw [hu, up0 (Or.inr k1), up0 (Or.inr k4), up2_n _ _ (Or.inl (by omega))]
  have w5 : u 0 5 = V 0 5 + 1 := by rw [hu, up2_s]
  have w6 : u 0 6 = V 0 6 := o 6 (by omega) (by omega)
  refine noteS (w := 1048576 * 1 + v) h hP ⟨by omega, Or.inr ⟨by omega, by omega⟩⟩ (fun k => ?_) ?_ ?_ (o 11 (by omega) (by omega)) (by omega) (by omega) w6 (o 12 (by omega) (by omega)) (fun i i1 i2 i3 => ?_)
  · rw [hu, up0 (Or.inl (by omega)), up0 (Or.inl (by omega))]
    by_cases q : k = (V 0 10).toNat
    · subst q; rw [up2_s, if_pos rfl]
    · rw [up2_n _ _ (Or.inr q), if_neg q]
  · rw [hu, up0r (by omega), up0r (by omega), up2_c _ _ (by omega)]
  · rw [hu, up0 (Or.inr (by omega)), up2_s]
  · rw [hu, up0r i1, up0r i1, up2_c _ _ i2]
/-- a sum was read -/
def pSum (V u : Nat → Nat → Int) : Prop := psl (u 5) (V 0 10) (u 0 10) 1 ∧ V 0 10 ≤ u 0 10 ∧ u 0 11 = V 0 11 ∧ u 0 10 - V 0 10 ≤ u 0 5 - V 0 5 ∧ PG u ∧ FrS (V 0 11) (V 0 10) V u ∧ V 0 5 < u 0 5
theorem pSum.mk {V W u : Nat → Nat → Int} (hf : FrS (V 0 11) (V 0 10) V W) (hlt : V 0 5 < W 0 5) (h : pCL (V 0 11) (V 0 10) (V 0 5 - V 0 10) W u) (hend : u 0 11 = V 0 11 ∨ (V 0 11 < u 0 11 ∧ pdv (W 6 (u 0 11 - 1).toNat) = 14)) (hno : ¬ ∃ j : Nat, V 0 11 ≤ (j : Int) ∧ (j : Int) < W 0 11 ∧ pdv (W 6 j) = 14) : pSum V u := by
  obtain ⟨hS, hP, h6, hF, h5, hj, hle⟩ := h
  have he : u 0 11 = V 0 11 := by
    rcases hend with q | q
    · exact q
    · have := hS.le
      exact absurd ⟨(u 0 11 - 1).toNat, by omega, by omega, q.2⟩ hno
  have a := hS.le
  exact ⟨hS.done he, a.2.1, he, by omega, hP, hf.tr hF, by omega⟩
theorem pCL.has {b c0 d : Int} {W u : Nat → Nat → Int} (h : pCL b c0 d W u) (hend : u 0 11 = b ∨ (b < u 0 11 ∧ pdv (W 6 (u 0 11 - 1).toNat) = 14)) (hx : ∃ j : Nat, b ≤ (j : Int) ∧ (j : Int) < W 0 11 ∧ pdv (W 6 j) = 14) : b < u 0 11 ∧ pdv (u 6 (u 0 11 - 1).toNat) = 14 := by
  obtain ⟨hS, hP, h6, hF, h5, hj, hle⟩ := h
  rcases hend with q | q
  · obtain ⟨j, j1, j2, j3⟩ := hx
    have := hj j (by omega) j2
    unfold pio at this
    omega
  · rw [h6]; exact q
theorem FrS.tio {c : Int} {V W : Nat → Nat → Int} (hf : FrS (V 0 11) c V W) (ht : V 0 11 = 0 ∨ ¬ pio (V 6 (V 0 11 - 1).toNat)) (h0 : 0 ≤ V 0 11) : V 0 11 = 0 ∨ ¬ pio (W 6 (V 0 11 - 1).toNat) := by
  by_cases q : V 0 11 = 0
  · exact Or.inl q
  · right
    rw [hf.2.1 _ (by omega)]
    exact ht.resolve_left q
