-- the reference's reading of texts: what its stack and its code are
def pdv (w : Int) : Int := iDiv w 1048576
def prm (w : Int) : Int := iRem w 1048576
theorem pdv_m {s v : Int} (hs : 0 ≤ s ∧ s ≤ 14) (hv : 0 ≤ v ∧ v ≤ 1048575) : pdv (1048576 * s + v) = s := by
  rw [pdv, iDiv_p (by omega) (by omega)]
  omega
theorem prm_m {s v : Int} (hs : 0 ≤ s ∧ s ≤ 14) (hv : 0 ≤ v ∧ v ≤ 1048575) : prm (1048576 * s + v) = v := by
  rw [prm, iRem_p (by omega) (by omega)]
  omega
/-- a sum's operator waits there -/
def pio (w : Int) : Prop := 2 ≤ pdv w ∧ pdv w ≤ 6
def pcn (w : Nat → Int) (b : Nat) : Nat → Int
  | 0 => 0
  | n + 1 => pcn w b n + (if 2 ≤ pdv (w (b + n)) ∧ pdv (w (b + n)) ≤ 6 then 1 else 0)
theorem pcn_nn (w : Nat → Int) (b : Nat) : ∀ n : Nat, 0 ≤ pcn w b n
  | 0 => Int.le_refl _
  | n + 1 => by
    have := pcn_nn w b n
    rw [pcn]
    split <;> omega
theorem pcn_c {w w2 : Nat → Int} {b : Nat} : ∀ n : Nat, (∀ j : Nat, j < n → w2 (b + j) = w (b + j)) → pcn w2 b n = pcn w b n
  | 0, _ => rfl
  | n + 1, h => by rw [pcn, pcn, pcn_c n (fun j hj => h j (by omega)), h n (by omega)]
/-- one step of straight code: the stack's height before it and behind it -/
def pst (e e2 cz : Int) : Prop := 0 ≤ cz ∧ 0 ≤ e ∧ 0 ≤ e2 ∧ ((cz / 1048576 = 0 ∧ e2 = e + 1) ∨ (cz / 1048576 = 1 ∧ cz % 1048576 ≤ 12 ∧ e2 = e + 1) ∨ (2 ≤ cz / 1048576 ∧ cz / 1048576 ≤ 6 ∧ 2 ≤ e ∧ e2 = e - 1))
def psl (c : Nat → Int) (a b e : Int) : Prop := ∃ g : Int → Int, g a = 0 ∧ g b = e ∧ ∀ z : Int, a ≤ z → z < b → g z ≤ z - a ∧ g (z + 1) ≤ z + 1 - a ∧ pst (g z) (g (z + 1)) (c z.toNat)
theorem psl.nil {c : Nat → Int} {a : Int} : psl c a a 0 := ⟨fun _ => 0, rfl, rfl, fun z h1 h2 => by omega⟩
theorem psl.ext {c c2 : Nat → Int} {a b e e2 : Int} (h : psl c a b e) (ha : 0 ≤ a ∧ a ≤ b) (hc : ∀ k : Nat, (k : Int) < b → c2 k = c k) (hs : pst e e2 (c2 b.toNat)) : psl c2 a (b + 1) e2 := by
  obtain ⟨g, g0, g1, g2⟩ := h
  have hle : e ≤ b - a := by
    by_cases hab : a = b
    · subst hab; omega
    · have := (g2 (b - 1) (by omega) (by omega)).2.1
      rw [show b - 1 + 1 = b by omega, g1] at this
      exact this
  have hup : e2 ≤ e + 1 := by
    have := hs.2.2.2
    omega
  refine ⟨fun z => if z = b + 1 then e2 else g z, ?_, ?_, fun z h1 h2 => ?_⟩
  · show (if a = b + 1 then e2 else g a) = 0
    rw [if_neg (by omega)]; exact g0
  · show (if b + 1 = b + 1 then e2 else g (b + 1)) = e2
    rw [if_pos rfl]
  · show (if z = b + 1 then e2 else g z) ≤ z - a ∧ (if z + 1 = b + 1 then e2 else g (z + 1)) ≤ z + 1 - a ∧ pst (if z = b + 1 then e2 else g z) (if z + 1 = b + 1 then e2 else g (z + 1)) (c2 z.toNat)
    rw [if_neg (by omega)]
    by_cases e : z = b
    · subst e
      rw [if_pos rfl, g1]
      exact ⟨by omega, by omega, hs⟩
    · rw [if_neg (by omega), hc z.toNat (by omega)]
      exact g2 z h1 (by omega)
theorem psl.cc {c c2 : Nat → Int} {a b e : Int} (h : psl c a b e) (ha : 0 ≤ a) (hc : ∀ k : Nat, (k : Int) < b → c2 k = c k) : psl c2 a b e := by
  obtain ⟨g, g0, g1, g2⟩ := h
  exact ⟨g, g0, g1, fun z h1 h2 => by rw [hc z.toNat (by omega)]; exact g2 z h1 h2⟩
/-- places -/
def PG (V : Nat → Nat → Int) : Prop := 0 ≤ V 0 5 ∧ V 0 5 ≤ V 0 6 ∧ V 0 6 ≤ 200 ∧ 0 ≤ V 0 11 ∧ V 0 11 ≤ V 0 5 ∧ 0 ≤ V 0 10
/-- within a sum: from the stack's place b and the code's place c0 on; e: whether the operand is read -/
def SI (b c0 d e : Int) (V : Nat → Nat → Int) : Prop :=
  0 ≤ b ∧ b ≤ V 0 11 ∧ 0 ≤ c0 ∧ c0 ≤ V 0 10 ∧ V 0 10 + (V 0 11 - b) + d ≤ V 0 5 ∧ 0 ≤ d ∧
  (∀ j : Nat, b ≤ j → (j : Int) < V 0 11 → pio (V 6 j) ∨ pdv (V 6 j) = 14) ∧
  psl (V 5) c0 (V 0 10) (pcn (V 6) b.toNat (V 0 11 - b).toNat + e)
/-- what a sum leaves as it was -/
def FrS (b c0 : Int) (V u : Nat → Nat → Int) : Prop := (∀ k : Nat, (k : Int) < c0 → u 5 k = V 5 k) ∧ (∀ k : Nat, (k : Int) < b → u 6 k = V 6 k) ∧ u 0 6 = V 0 6 ∧ u 0 12 = V 0 12 ∧ (∀ i : Nat, i ≠ 0 → i ≠ 5 → i ≠ 6 → u i = V i) ∧ V 0 5 ≤ u 0 5
theorem FrS.rf {b c0 : Int} {V : Nat → Nat → Int} : FrS b c0 V V := ⟨fun _ _ => rfl, fun _ _ => rfl, rfl, rfl, fun _ _ _ _ => rfl, Int.le_refl _⟩
theorem FrS.tr {b c0 : Int} {V W u : Nat → Nat → Int} (h : FrS b c0 V W) (k : FrS b c0 W u) : FrS b c0 V u := ⟨fun q hq => (k.1 q hq).trans (h.1 q hq), fun q hq => (k.2.1 q hq).trans (h.2.1 q hq), k.2.2.1.trans h.2.2.1, k.2.2.2.1.trans h.2.2.2.1, fun i a b c => (k.2.2.2.2.1 i a b c).trans (h.2.2.2.2.1 i a b c), Int.le_trans h.2.2.2.2.2 k.2.2.2.2.2⟩
/-- a number of row 0 is written -/
theorem up0 {V : Nat → Nat → Int} {k : Nat} {a : Int} {i q : Nat} (h : i ≠ 0 ∨ q ≠ k) : up2 V 0 k a i q = V i q := up2_n _ _ h
theorem up0r {V : Nat → Nat → Int} {k : Nat} {a : Int} {i : Nat} (h : i ≠ 0) : up2 V 0 k a i = V i := up2_c _ _ h
/-- a word is noted -/
theorem SI.note {b c0 d e e2 : Int} {V u : Nat → Nat → Int} {w : Int} {q : Nat} (h : SI b c0 d e V) (hq : q = (V 0 10).toNat) (h5 : ∀ k : Nat, u 5 k = if k = q then w else V 5 k) (h6 : u 6 = V 6) (h10 : u 0 10 = V 0 10 + 1) (h11 : u 0 11 = V 0 11) (hp : u 0 10 + (u 0 11 - b) + d ≤ u 0 5) (hs : pst (pcn (V 6) b.toNat (V 0 11 - b).toNat + e) (pcn (V 6) b.toNat (V 0 11 - b).toNat + e2) w) : SI b c0 d e2 u := by
  obtain ⟨a1, a2, a3, a4, a5, a6, a7, a8⟩ := h
  refine ⟨a1, by omega, a3, by omega, hp, a6, fun j hj1 hj2 => by rw [h6]; exact a7 j hj1 (by omega), ?_⟩
  rw [h10, h11, h6]
  refine psl.ext a8 ⟨a3, a4⟩ (fun k hk => by rw [h5, if_neg (by omega)]) ?_
  rw [h5, if_pos hq.symm]
  exact hs
theorem SI.start {V : Nat → Nat → Int} (hP : PG V) (hc : V 0 10 ≤ V 0 5) : SI (V 0 11) (V 0 10) (V 0 5 - V 0 10) 0 V := by
  obtain ⟨p1, p2, p3, p4, p5, p6⟩ := hP
  refine ⟨p4, Int.le_refl _, p6, Int.le_refl _, by omega, by omega, fun j h1 h2 => by omega, ?_⟩
  rw [show (V 0 11 - V 0 11).toNat = 0 by omega]
  exact psl.nil
theorem SI.done {b c0 d : Int} {V : Nat → Nat → Int} (h : SI b c0 d 1 V) (hw : V 0 11 = b) : psl (V 5) c0 (V 0 10) 1 := by
  have := h.2.2.2.2.2.2.2
  rw [hw, show (b - b).toNat = 0 by omega] at this
  exact this
theorem SI.c200 {b c0 d e : Int} {V : Nat → Nat → Int} (h : SI b c0 d e V) (hP : PG V) : V 0 10 ≤ 200 ∧ V 0 11 ≤ 200 ∧ V 0 5 ≤ 200 := by
  obtain ⟨p1, p2, p3, p4, p5, p6⟩ := hP
  obtain ⟨a1, a2, a3, a4, a5, a6, -⟩ := h
  omega
theorem SI.close {b c0 d : Int} {V u : Nat → Nat → Int} (h : SI b c0 d 1 V) (ht : pio (V 6 (V 0 11 - 1).toNat)) (hgt : b < V 0 11) (h5 : ∀ k : Nat, u 5 k = if k = (V 0 10).toNat then 1048576 * pdv (V 6 (V 0 11 - 1).toNat) + 0 else V 5 k) (h6 : u 6 = V 6) (h10 : u 0 10 = V 0 10 + 1) (h11 : u 0 11 = V 0 11 - 1) (hp : u 0 5 = V 0 5) : SI b c0 d 1 u := by
  obtain ⟨a1, a2, a3, a4, a5, a6, a7, a8⟩ := h
  have e1 : (V 0 11 - b).toNat = (V 0 11 - 1 - b).toNat + 1 := by omega
  have e2 : b.toNat + (V 0 11 - 1 - b).toNat = (V 0 11 - 1).toNat := by omega
  have e3 : pcn (V 6) b.toNat (V 0 11 - b).toNat = pcn (V 6) b.toNat (V 0 11 - 1 - b).toNat + 1 := by
    have ht2 : 2 ≤ pdv (V 6 (V 0 11 - 1).toNat) ∧ pdv (V 6 (V 0 11 - 1).toNat) ≤ 6 := ht
    rw [e1, pcn, e2, if_pos ht2]
  have hn := pcn_nn (V 6) b.toNat (V 0 11 - 1 - b).toNat
  refine ⟨a1, by omega, a3, by omega, by omega, a6, fun j hj1 hj2 => by rw [h6]; exact a7 j hj1 (by omega), ?_⟩
  rw [h10, h11, h6]
  rw [e3] at a8
  refine psl.ext a8 ⟨a3, a4⟩ (fun k hk => by rw [h5, if_neg (by omega)]) ?_
  rw [h5, if_pos rfl]
  obtain ⟨t1, t2⟩ := ht
  exact ⟨by omega, by omega, by omega, Or.inr (Or.inr ⟨by omega, by omega, by omega, by omega⟩)⟩
theorem SI.push {b c0 d e e2 : Int} {V u : Nat → Nat → Int} {x : Int} (h : SI b c0 d e V) (hx : (pio x ∧ e = e2 + 1) ∨ (pdv x = 14 ∧ e = e2)) (h5 : u 5 = V 5) (h6 : ∀ k : Nat, u 6 k = if k = (V 0 11).toNat then x else V 6 k) (h10 : u 0 10 = V 0 10) (h11 : u 0 11 = V 0 11 + 1) (hp : u 0 5 = V 0 5 + 1) : SI b c0 d e2 u := by
  obtain ⟨a1, a2, a3, a4, a5, a6, a7, a8⟩ := h
  have e1 : (V 0 11 + 1 - b).toNat = (V 0 11 - b).toNat + 1 := by omega
  have e4 : b.toNat + (V 0 11 - b).toNat = (V 0 11).toNat := by omega
  have e3 : pcn (u 6) b.toNat (V 0 11 + 1 - b).toNat + e2 = pcn (V 6) b.toNat (V 0 11 - b).toNat + e := by
    rw [e1, pcn, e4, pcn_c (w := V 6) _ (fun j hj => by rw [h6, if_neg (by omega)]), h6, if_pos rfl]
    rcases hx with ⟨hx, h⟩ | ⟨hx, h⟩
    · have hx2 : 2 ≤ pdv x ∧ pdv x ≤ 6 := hx
      rw [if_pos hx2]; omega
    · rw [if_neg (by omega)]; omega
  refine ⟨a1, by omega, a3, by omega, by omega, a6, fun j hj1 hj2 => ?_, ?_⟩
  · rw [h6]
    by_cases hj : j = (V 0 11).toNat
    · rw [if_pos hj]
      rcases hx with ⟨hx, -⟩ | ⟨hx, -⟩
      · exact Or.inl hx
      · exact Or.inr hx
    · rw [if_neg hj]
      exact a7 j hj1 (by omega)
  · rw [h10, h11, e3, h5]
    exact a8
theorem SI.pop14 {b c0 d : Int} {V u : Nat → Nat → Int} (h : SI b c0 d 1 V) (ht : pdv (V 6 (V 0 11 - 1).toNat) = 14) (hgt : b < V 0 11) (h5 : u 5 = V 5) (h6 : u 6 = V 6) (h10 : u 0 10 = V 0 10) (h11 : u 0 11 = V 0 11 - 1) (hp : V 0 5 ≤ u 0 5) : SI b c0 d 1 u := by
  obtain ⟨a1, a2, a3, a4, a5, a6, a7, a8⟩ := h
  have e1 : (V 0 11 - b).toNat = (V 0 11 - 1 - b).toNat + 1 := by omega
  have e2 : b.toNat + (V 0 11 - 1 - b).toNat = (V 0 11 - 1).toNat := by omega
  have e3 : pcn (V 6) b.toNat (V 0 11 - b).toNat = pcn (V 6) b.toNat (V 0 11 - 1 - b).toNat := by
    rw [e1, pcn, e2, if_neg (by omega)]; omega
  refine ⟨a1, by omega, a3, by omega, by omega, a6, fun j hj1 hj2 => by rw [h6]; exact a7 j hj1 (by omega), ?_⟩
  rw [h10, h11, h6, h5, ← e3]
  exact a8
def ptop (V : Nat → Nat → Int) : Int := if V 0 11 = 0 then -1 else pdv (V 6 (V 0 11 - 1).toNat)
theorem ptop_n {V : Nat → Nat → Int} (h : ¬ ptop V = -1) : ¬ V 0 11 = 0 ∧ ptop V = pdv (V 6 (V 0 11 - 1).toNat) := by
  by_cases e : V 0 11 = 0
  · exact absurd (by rw [ptop, if_pos e]) h
  · exact ⟨e, by rw [ptop, if_neg e]⟩
/-- closesSums so far -/
def pCL (b c0 d : Int) (V u : Nat → Nat → Int) : Prop := SI b c0 d 1 u ∧ PG u ∧ u 6 = V 6 ∧ FrS b c0 V u ∧ u 0 5 = V 0 5 ∧ (∀ j : Nat, u 0 11 ≤ j → (j : Int) < V 0 11 → pio (V 6 j)) ∧ u 0 11 ≤ V 0 11
theorem pCL.rf {b c0 d : Int} {V : Nat → Nat → Int} (h : SI b c0 d 1 V) (hP : PG V) : pCL b c0 d V V := ⟨h, hP, rfl, FrS.rf, rfl, fun j h1 h2 => by omega, Int.le_refl _⟩
theorem pCL.step {b c0 d : Int} {V W u : Nat → Nat → Int} (h : pCL b c0 d V W) (hb : b = 0 ∨ ¬ pio (V 6 (b - 1).toNat)) (ht : 2 ≤ ptop W ∧ ptop W ≤ 6) (hu : u = up2 (up2 (up2 W 5 (W 0 10).toNat (1048576 * ptop W + 0)) 0 10 (W 0 10 + 1)) 0 11 (W 0 11 - 1)) : pCL b c0 d V u := by
  obtain ⟨hS, ⟨p1, p2, p3, p4, p5, p6⟩, h6, hF, h05, hj, hle⟩ := h
  obtain ⟨t0, t1⟩ := ptop_n (V := W) (by omega)
  have hS' := hS
  obtain ⟨a1, a2, a3, a4, a5, a6, a7, a8⟩ := hS
  have hpio : pio (W 6 (W 0 11 - 1).toNat) := by rw [t1] at ht; exact ht
  have hgt : b < W 0 11 := by
    rcases Int.lt_or_le b (W 0 11) with g | g
    · exact g
    · have hbe : W 0 11 = b := by omega
      rcases hb with hb | hb
      · omega
      · rw [hbe, h6] at hpio
        exact absurd hpio hb
  have u5 : ∀ k : Nat, u 5 k = if k = (W 0 10).toNat then 1048576 * pdv (W 6 (W 0 11 - 1).toNat) + 0 else W 5 k := by
    intro k
    rw [hu, up2_n _ _ (Or.inl (by omega)), up2_n _ _ (Or.inl (by omega)), t1]
    by_cases e : k = (W 0 10).toNat
    · subst e; rw [up2_s, if_pos rfl]
    · rw [up2_n _ _ (Or.inr e), if_neg e]
  have u6 : u 6 = W 6 := by rw [hu, up0r (by omega), up0r (by omega), up2_c _ _ (by omega)]
  have u10 : u 0 10 = W 0 10 + 1 := by rw [hu, up2_n _ _ (Or.inr (by omega)), up2_s]
  have u11 : u 0 11 = W 0 11 - 1 := by rw [hu, up2_s]
  have uo : ∀ k : Nat, k ≠ 10 → k ≠ 11 → u 0 k = W 0 k := fun k k1 k2 => by rw [hu, up2_n _ _ (Or.inr k2), up2_n _ _ (Or.inr k1), up2_n _ _ (Or.inl (by omega))]
  have ur : ∀ i : Nat, i ≠ 0 → i ≠ 5 → u i = W i := fun i i1 i2 => by rw [hu, up0r i1, up0r i1, up2_c _ _ i2]
  refine ⟨SI.close hS' hpio hgt u5 u6 u10 u11 (uo 5 (by omega) (by omega)), ⟨?_, ?_, ?_, ?_, ?_, ?_⟩, u6.trans h6, hF.tr ⟨fun k hk => by rw [u5, if_neg (by omega)], fun k _ => by rw [u6], uo 6 (by omega) (by omega), uo 12 (by omega) (by omega), fun i i1 i2 i3 => ur i i1 i2, by rw [uo 5 (by omega) (by omega)]; exact Int.le_refl _⟩, (uo 5 (by omega) (by omega)).trans h05, fun j j1 j2 => ?_, by omega⟩
  · rw [uo 5 (by omega) (by omega)]; exact p1
  · rw [uo 5 (by omega) (by omega), uo 6 (by omega) (by omega)]; exact p2
  · rw [uo 6 (by omega) (by omega)]; exact p3
  · omega
  · rw [uo 5 (by omega) (by omega)]; omega
  · omega
  · by_cases e : (j : Int) = W 0 11 - 1
    · have : j = (W 0 11 - 1).toNat := by omega
      rw [this, ← h6]; exact hpio
    · exact hj j (by omega) j2
theorem pCL.top {b c0 d : Int} {V W : Nat → Nat → Int} (h : pCL b c0 d V W) (ht : ¬ (2 ≤ ptop W ∧ ptop W ≤ 6)) : W 0 11 = b ∨ (b < W 0 11 ∧ pdv (V 6 (W 0 11 - 1).toNat) = 14) := by
  obtain ⟨⟨a1, a2, a3, a4, a5, a6, a7, a8⟩, hP, h6, -⟩ := h
  rcases Int.lt_or_le b (W 0 11) with g | g
  · right
    refine ⟨g, ?_⟩
    rw [ptop, if_neg (by omega)] at ht
    rcases a7 (W 0 11 - 1).toNat (by omega) (by omega) with k | k
    · exact absurd k ht
    · rw [← h6]; exact k
  · left; omega
