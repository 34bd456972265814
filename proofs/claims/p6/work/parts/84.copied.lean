-- what was read is laid into the tables
def MU (_G V : Nat → Nat → Int) : Prop := MI V V
theorem MI.sf {G V : Nat → Nat → Int} (h : MI G V) : MI V V := ⟨fun i k => ⟨(h.1 i k).1, fun _ => rfl⟩, h.2⟩
theorem MU.rd {G V : Nat → Nat → Int} (h : MU G V) (i k : Nat) {x y : Int} (hr : rgM i k = (x, y)) : ∃ z : Int, V i k = z ∧ x ≤ z ∧ z ≤ y := MI.rd h i k hr
theorem MU.vr {G V : Nat → Nat → Int} (h : MU G V) : VR V := MI.vr h
theorem MU.up {G V W : Nat → Nat → Int} (h : MU G V) {i k : Nat} {a : Int} (hW : W = up2 V i k a) {x y : Int} (hr : rgM i k = (x, y)) (ha : x ≤ a ∧ a ≤ y) (_ : True) (hf : mFree i k) : MU G W := MI.sf (MI.upG h hW hr ha hf)
theorem WP.of {G u : Nat → Nat → Int} (h : MI G u) (hW : WP G) : WP u := by
  have e : ∀ i : Nat, 11 ≤ i → i ≤ 16 → u i = G i := fun i h1 h2 => by
    funext k
    refine (h.1 i k).2 ?_
    have : i = 11 ∨ i = 12 ∨ i = 13 ∨ i = 14 ∨ i = 15 ∨ i = 16 := by omega
    rcases this with rfl | rfl | rfl | rfl | rfl | rfl <;> rfl
  intro q hq hh
  rw [e 12 (by omega) (by omega)] at hh
  have := hW q hq hh
  unfold xCl at this ⊢
  rw [e 11 (by omega) (by omega), e 14 (by omega) (by omega), e 15 (by omega) (by omega), e 16 (by omega) (by omega)]
  exact this
/-- the first i words of the code are copied -/
def RC (t i : Int) (A W : Nat → Nat → Int) : Prop := (∀ k : Nat, (k : Int) < i → W 11 ((220 * t).toNat + k) = A 5 k) ∧ (∀ q : Nat, ((q : Int) < 220 * t ∨ 220 * t + 220 ≤ q) → W 11 q = A 11 q) ∧ (∀ k : Nat, (k : Int) ≠ t → W 12 k = A 12 k) ∧ W 12 t.toNat = A 0 12 ∧ (∀ r : Nat, r ≠ 11 → r ≠ 12 → W r = A r)
theorem RC.start {t : Int} {A W : Nat → Nat → Int} (ht : 0 ≤ t) (hW : W = up2 A 12 t.toNat (A 0 12)) : RC t 0 A W := by
  subst hW
  exact ⟨fun k hk => by omega, fun q _ => by rw [up2_n _ _ (Or.inl (by omega))], fun k hk => by rw [up2_n _ _ (Or.inr (by omega))], up2_s _ _ _ _, fun r _ h2 => up2_c _ _ h2⟩
theorem RC.step {t i : Int} {A W u : Nat → Nat → Int} (h : RC t i A W) (ht : 0 ≤ t) (hi : 0 ≤ i ∧ i < 220) (hu : u = up2 W 11 (220 * t + i).toNat (A 5 i.toNat)) : RC t (i + 1) A u := by
  obtain ⟨h1, h2, h3, h4, h5⟩ := h
  subst hu
  refine ⟨fun k hk => ?_, fun q hq => by rw [up2_n _ _ (Or.inr (by omega))]; exact h2 q hq, fun k hk => by rw [up2_n _ _ (Or.inl (by omega))]; exact h3 k hk, by rw [up2_n _ _ (Or.inl (by omega))]; exact h4, fun r r1 r2 => by rw [up2_c _ _ r1]; exact h5 r r1 r2⟩
  by_cases q : (k : Int) = i
  · rw [show (220 * t).toNat + k = (220 * t + i).toNat by omega, up2_s, show i.toNat = k by omega]
  · rw [up2_n _ _ (Or.inr (by omega))]
    exact h1 k (by omega)
/-- the first i clauses too -/
def RT (t n i : Int) (A W : Nat → Nat → Int) : Prop := (∀ k : Nat, (k : Int) < n → W 11 ((220 * t).toNat + k) = A 5 k) ∧ (∀ q : Nat, ((q : Int) < 220 * t ∨ 220 * t + 220 ≤ q) → W 11 q = A 11 q) ∧ (∀ k : Nat, (k : Int) ≠ t → W 12 k = A 12 k) ∧ W 12 t.toNat = A 0 12 ∧
  (∀ j : Nat, (j : Int) < i → W 14 ((14 * t).toNat + j) = 220 * t + A 8 j ∧ W 15 ((14 * t).toNat + j) = 220 * t + A 9 j ∧ W 16 ((14 * t).toNat + j) = 220 * t + A 10 j) ∧
  (∀ q : Nat, ((q : Int) < 14 * t ∨ 14 * t + 14 ≤ q) → W 14 q = A 14 q ∧ W 15 q = A 15 q ∧ W 16 q = A 16 q) ∧ (∀ r : Nat, r < 11 → W r = A r)
theorem RC.toT {t n : Int} {A W : Nat → Nat → Int} (h : RC t n A W) : RT t n 0 A W := ⟨h.1, h.2.1, h.2.2.1, h.2.2.2.1, fun j hj => by omega, fun q _ => by rw [h.2.2.2.2 14 (by omega) (by omega), h.2.2.2.2 15 (by omega) (by omega), h.2.2.2.2 16 (by omega) (by omega)]; exact ⟨rfl, rfl, rfl⟩, fun r hr => h.2.2.2.2 r (by omega) (by omega)⟩
theorem RT.step {t n i : Int} {A W u : Nat → Nat → Int} {c : Int} (h : RT t n i A W) (ht : 0 ≤ t) (hi : 0 ≤ i ∧ i < 14) (hu : u = up2 (up2 (up2 (up2 W 13 (14 * t + i).toNat c) 14 (14 * t + i).toNat (220 * t + A 8 i.toNat)) 15 (14 * t + i).toNat (220 * t + A 9 i.toNat)) 16 (14 * t + i).toNat (220 * t + A 10 i.toNat)) : RT t n (i + 1) A u := by
  obtain ⟨h1, h2, h3, h4, h5, h6, h7⟩ := h
  have r11 : u 11 = W 11 := by rw [hu, up2_c _ _ (by omega), up2_c _ _ (by omega), up2_c _ _ (by omega), up2_c _ _ (by omega)]
  have r12 : u 12 = W 12 := by rw [hu, up2_c _ _ (by omega), up2_c _ _ (by omega), up2_c _ _ (by omega), up2_c _ _ (by omega)]
  have rr : ∀ r : Nat, r < 11 → u r = W r := fun r hr => by rw [hu, up2_c _ _ (by omega), up2_c _ _ (by omega), up2_c _ _ (by omega), up2_c _ _ (by omega)]
  have r14 : ∀ q : Nat, u 14 q = if q = (14 * t + i).toNat then 220 * t + A 8 i.toNat else W 14 q := fun q => by
    rw [hu, up2_n _ _ (Or.inl (by omega)), up2_n _ _ (Or.inl (by omega))]
    by_cases e : q = (14 * t + i).toNat
    · subst e; rw [up2_s, if_pos rfl]
    · rw [up2_n _ _ (Or.inr e), if_neg e, up2_n _ _ (Or.inl (by omega))]
  have r15 : ∀ q : Nat, u 15 q = if q = (14 * t + i).toNat then 220 * t + A 9 i.toNat else W 15 q := fun q => by
    rw [hu, up2_n _ _ (Or.inl (by omega))]
    by_cases e : q = (14 * t + i).toNat
    · subst e; rw [up2_s, if_pos rfl]
    · rw [up2_n _ _ (Or.inr e), if_neg e, up2_n _ _ (Or.inl (by omega)), up2_n _ _ (Or.inl (by omega))]
  have r16 : ∀ q : Nat, u 16 q = if q = (14 * t + i).toNat then 220 * t + A 10 i.toNat else W 16 q := fun q => by
    rw [hu]
    by_cases e : q = (14 * t + i).toNat
    · subst e; rw [up2_s, if_pos rfl]
    · rw [up2_n _ _ (Or.inr e), if_neg e, up2_n _ _ (Or.inl (by omega)), up2_n _ _ (Or.inl (by omega)), up2_n _ _ (Or.inl (by omega))]
  clear hu
  refine ⟨by rw [r11]; exact h1, by rw [r11]; exact h2, by rw [r12]; exact h3, by rw [r12]; exact h4, fun j hj => ?_, fun q hq => ?_, fun r hr => by rw [rr r hr]; exact h7 r hr⟩
  · rw [r14, r15, r16]
    by_cases e : (j : Int) = i
    · rw [if_pos (by omega), if_pos (by omega), if_pos (by omega), show i.toNat = j by omega]
      exact ⟨rfl, rfl, rfl⟩
    · rw [if_neg (by omega), if_neg (by omega), if_neg (by omega)]
      exact h5 j (by omega)
  · rw [r14, r15, r16, if_neg (by omega), if_neg (by omega), if_neg (by omega)]
    exact h6 q hq
theorem RT.wp {t : Int} {A u : Nat → Nat → Int} (h : RT t (A 0 10) (A 0 12) A u) (ht : 0 ≤ t ∧ t ≤ 4) (hT : PT A) (hW : WP A) : WP u := by
  obtain ⟨h1, h2, h3, h4, h5, h6, h7⟩ := h
  obtain ⟨⟨p1, p2, p3, p4, p5, p6⟩, hp⟩ := hT
  intro q hq hh
  have hB : ((220 * t).toNat : Int) = 220 * t := by omega
  by_cases e : ((q / 14 : Nat) : Int) = t
  · rw [show q / 14 = t.toNat by omega, h4] at hh
    obtain ⟨a1, a2, a3, a4, a5, a6⟩ := hp (q % 14) hh
    obtain ⟨b1, b2, b3⟩ := h5 (q % 14) hh
    have eq : (14 * t).toNat + q % 14 = q := by omega
    rw [eq] at b1 b2 b3
    have e2 : ((q : Nat) : Int) / 14 = t := by omega
    have c1 := a5.sh (B := (220 * t).toNat) a1 (c2 := u 11) (fun k hk => h1 k (by omega))
    have c2 := a6.sh (B := (220 * t).toNat) (by omega) (c2 := u 11) (fun k hk => h1 k (by omega))
    rw [hB] at c1 c2
    unfold xCl
    rw [e2, b1, b2, b3]
    exact ⟨by omega, by omega, by omega, by omega, c1, c2⟩
  · rw [h3 _ e] at hh
    have k := hW q hq hh
    obtain ⟨b1, b2, b3⟩ := h6 q (by omega)
    unfold xCl at k ⊢
    rw [b1, b2, b3]
    obtain ⟨k1, k2, k3, k4, k5, k6⟩ := k
    refine ⟨k1, k2, k3, k4, k5.cr (by omega) (fun x x1 x2 => h2 x (by omega)), k6.cr (by omega) (fun x x1 x2 => h2 x (by omega))⟩
theorem PT.tk {V u : Nat → Nat → Int} (h : PT V) (hfr : ∀ i k : Nat, (i ≠ 0 ∨ (k ≠ 5 ∧ k ≠ 7)) → u i k = V i k) (h5 : V 0 5 ≤ u 0 5) (h56 : u 0 5 ≤ u 0 6) : PT u := by
  have o6 := hfr 0 6 (Or.inr (by omega))
  have o10 := hfr 0 10 (Or.inr (by omega))
  have o12 := hfr 0 12 (Or.inr (by omega))
  obtain ⟨⟨p1, p2, p3, p4, p5, p6⟩, hp⟩ := h
  exact ⟨by omega, fun s hs => (hp s (by omega)).cc (hfr 8 s (Or.inl (by omega))) (hfr 9 s (Or.inl (by omega))) (hfr 10 s (Or.inl (by omega))) (by omega) (fun k _ => hfr 5 k (Or.inl (by omega)))⟩
theorem PT.t4 {V u : Nat → Nat → Int} {a : Int} (h : PT V) (hu : u = up2 V 0 4 a) : PT u := by
  subst hu
  have e : ∀ k : Nat, k ≠ 4 → up2 V 0 4 a 0 k = V 0 k := fun k hk => up0 (Or.inr hk)
  have r : ∀ i : Nat, i ≠ 0 → up2 V 0 4 a i = V i := fun i hi => up0r hi
  obtain ⟨hp0, hp⟩ := h
  unfold PT
  rw [e 5 (by omega), e 6 (by omega), e 10 (by omega), e 12 (by omega)]
  exact ⟨hp0, fun s hs => (hp s hs).cc (by rw [r 8 (by omega)]) (by rw [r 9 (by omega)]) (by rw [r 10 (by omega)]) (by rw [e 10 (by omega)]; exact Int.le_refl _) (fun k _ => by rw [r 5 (by omega)])⟩
def gmu (g x : Int) : Nat := if g = 0 then 0 else (x + 1).toNat
theorem gmu_0 {g x y : Int} (hg : ¬ g = 0) (hy : 0 ≤ y) : gmu 0 x < gmu g y := by
  rw [gmu, gmu, if_pos rfl, if_neg hg]; omega
theorem gmu_1 {g x y : Int} (hg : ¬ g = 0) (hy : 0 ≤ y) (hxy : x < y) : gmu 1 x < gmu g y := by
  rw [gmu, gmu, if_neg (by omega), if_neg hg]; omega
