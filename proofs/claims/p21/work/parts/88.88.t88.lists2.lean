section
-- comes and can leave the lists alone; what the class's bounds give (own work)
theorem r_fillO {x : Int} {V J U J2 : Nat → Nat → Int} {R R2 : Nat → Nat → Nat} (h : f_s_fillO x V J R (U, J2, R2)) : R2 = R := by
  unfold f_s_fillO at h
  have k := lop2_k (fun (_ : Int) (_ : Nat → Nat → Int) => True) (fun r : xS => r.2.2 = R) (fun rc hrc z Y _ r h => by
    by_cases g : (13 : Int) ≤ z
    · rw [if_pos g] at h
      have h : r = (V, Y, R) := h
      rw [h]
    · rw [if_neg g] at h
      obtain ⟨Y2, -, h⟩ := rdb_g h
      exact hrc _ _ trivial _ h) _ _ _ trivial _ h
  exact k
set_option maxRecDepth 100000 in
theorem r_fillOdds {x a : Int} {V J U J2 : Nat → Nat → Int} {R R2 : Nat → Nat → Nat} (h : f_s_fillOdds x V J R (a, (U, J2, R2))) : R2 = R := by
  unfold f_s_fillOdds at h
  obtain ⟨V1, J1, R1, h1, -, h⟩ := h
  have e1 := r_fillO h1
  obtain ⟨J3, -, h⟩ := rdb_g h
  have k := lop2_k (fun (_ : Int) (_ : Nat → Nat → Int) => True) (fun r : Int × xS => r.2.2.2 = R1) (fun rc hrc z Y _ r h => by
    by_cases g : x ≤ z
    · rw [if_pos g] at h
      have h : r = (1, (V1, Y, R1)) := h
      rw [h]
    · rw [if_neg g] at h
      obtain ⟨z1, -, h⟩ := h
      obtain ⟨z2, -, -, h⟩ := h
      by_cases g2 : ¬ z2 = 0
      · rw [if_pos g2] at h
        exact lop2_k (fun (_ : Int) (_ : Nat → Nat → Int) => True) (fun r : Int × xS => r.2.2.2 = R1) (fun rc2 hrc2 z5 Y5 _ r h => by
          by_cases g5 : z5 < 0
          · rw [if_pos g5] at h
            exact hrc _ _ trivial _ h
          · rw [if_neg g5] at h
            have h := jnk_if h
            obtain ⟨_, -, h⟩ := rdb_g h
            obtain ⟨_, -, h⟩ := rdb_g h
            obtain ⟨_, -, h⟩ := rdb_g h
            obtain ⟨_, -, h⟩ := rdb_g h
            obtain ⟨_, -, h⟩ := rdb_g h
            exact hrc2 _ _ trivial _ h) _ _ _ trivial _ h
      · rw [if_neg g2] at h
        have h : r = (0, (V1, Y, R1)) := h
        rw [h]) _ _ _ trivial _ h
  rw [← e1]
  exact k
theorem r98_comes {x y w a : Int} {V V2 J J2 : Nat → Nat → Int} {R R2 : Nat → Nat → Nat} (hx : f_s_comes x y w V J R (a, (V2, J2, R2))) : R2 98 = R 98 := by
  have no : ∀ c : Int, rtn (c, (V, J, R)) (a, (V2, J2, R2)) → R2 98 = R 98 := fun c hx => by
    simp only [rtn, Prod.mk.injEq] at hx
    rw [hx.2.2.2]
  unfold f_s_comes at hx
  obtain ⟨z1, h1, -, hx⟩ := hx
  by_cases g1 : z1 = 0
  · rw [if_pos g1] at hx; exact no _ hx
  rw [if_neg g1] at hx
  obtain ⟨z4, h4, -, hx⟩ := hx
  by_cases g4 : z4 = 0
  · rw [if_pos g4] at hx; exact no _ hx
  rw [if_neg g4] at hx
  obtain ⟨z7, h7, -, hx⟩ := hx
  by_cases g7 : z7 = 0
  · rw [if_neg (fun hh => hh g7)] at hx; exact no _ hx
  rw [if_pos g7] at hx
  obtain ⟨z10, e10, -, hx⟩ := rdb_g hx
  by_cases g10 : x ≤ z10
  · rw [if_pos g10] at hx
    obtain ⟨z12, V12, J12, R12, h12, -, -, hx⟩ := hx
    have e := r_fillOdds h12
    obtain ⟨V13, -, hx⟩ := rdb_g hx
    by_cases g12 : z12 = 0
    · rw [if_pos g12] at hx
      simp only [rtn, Prod.mk.injEq] at hx
      rw [hx.2.2.2, e]
    · rw [if_neg g12] at hx
      obtain ⟨_, -, hx⟩ := rdb_g hx
      obtain ⟨_, -, hx⟩ := hx
      obtain ⟨_, -, hx⟩ := hx
      simp only [rtn, Prod.mk.injEq] at hx
      rw [hx.2.2.2, e]
  · rw [if_neg g10] at hx; exact no _ hx
set_option maxRecDepth 100000 in
theorem r98_can {x y u w a : Int} {V V2 J J2 : Nat → Nat → Int} {R R2 : Nat → Nat → Nat} (hx : f_s_can x y u w V J R (a, (V2, J2, R2))) : R2 98 = R 98 := by
  have no : ∀ c : Int, rtn (c, (V, J, R)) (a, (V2, J2, R2)) → R2 98 = R 98 := fun c hx => by
    simp only [rtn, Prod.mk.injEq] at hx
    rw [hx.2.2.2]
  unfold f_s_can at hx
  obtain ⟨z1, h1, -, hx⟩ := hx
  by_cases g1 : z1 = 0
  · rw [if_pos g1] at hx; exact no _ hx
  rw [if_neg g1] at hx
  obtain ⟨z4, h4, -, hx⟩ := hx
  by_cases g4 : z4 = 0
  · rw [if_neg (fun hh => hh g4)] at hx; exact no _ hx
  rw [if_pos g4] at hx
  obtain ⟨z7, h7, -, hx⟩ := hx
  by_cases g7 : z7 = 0
  · rw [if_pos g7] at hx; exact no _ hx
  rw [if_neg g7] at hx
  obtain ⟨z8, h8, -, hx⟩ := hx
  by_cases g8 : z8 = 0
  · rw [if_pos g8] at hx; exact no _ hx
  rw [if_neg g8] at hx
  obtain ⟨z10, e10, -, hx⟩ := rdb_g hx
  by_cases g10 : x ≤ z10
  · rw [if_pos g10] at hx
    obtain ⟨z12, V12, J12, R12, h12, -, -, hx⟩ := hx
    have e := r_fillOdds h12
    obtain ⟨V13, -, hx⟩ := rdb_g hx
    by_cases g12 : z12 = 0
    · rw [if_neg (fun hh => hh g12)] at hx
      simp only [rtn, Prod.mk.injEq] at hx
      rw [hx.2.2.2, e]
    · rw [if_pos g12] at hx
      have k := lop2_k (fun (_ _ : Int) => True) (fun r : Int × xS => r.2.2.2 = R12) (fun rc hrc z Y _ r h => by
        by_cases g : x < z
        · rw [if_pos g] at h
          obtain ⟨_, -, h⟩ := h
          obtain ⟨v, -, h⟩ := h
          have h : r = (v, (V13, J12, R12)) := h
          rw [h]
        · rw [if_neg g] at h
          obtain ⟨_, -, -, h⟩ := rdb_g h
          obtain ⟨_, -, -, h⟩ := rdb_g h
          obtain ⟨_, -, -, h⟩ := rdb_g h
          obtain ⟨_, -, -, h⟩ := rdb_g h
          obtain ⟨_, -, -, h⟩ := rdb_g h
          obtain ⟨_, -, h⟩ := rdb_g h
          obtain ⟨_, -, h⟩ := rdb_g h
          obtain ⟨_, -, h⟩ := rdb_g h
          exact hrc _ _ trivial _ h) _ _ _ trivial _ hx
      have k : R2 = R12 := k
      rw [k, e]
  · rw [if_neg g10] at hx; exact no _ hx
theorem zCr.of {R R2 : Nat → Nat → Nat} (h : zCr R) (e : R2 98 = R 98) : zCr R2 := by
  unfold zCr at h ⊢
  rw [e]
  exact h
theorem XI.lq {G V : Nat → Nat → Int} (h : XI G V) : zLq V := fun t ht => by
  have go : ∀ (i k : Nat) (x y : Int), rgX i k = (x, y) → x ≤ V i k ∧ V i k ≤ y := fun i k x y e => by
    have k := (h i k).1
    rw [e] at k
    exact k
  rcases ht with rfl | rfl | rfl | rfl | rfl | rfl
  · exact ⟨go 61 5 0 14 rfl, go 61 1 0 200 rfl, fun j => go 63 j 0 65535 rfl⟩
  · exact ⟨go 73 5 0 14 rfl, go 73 1 0 200 rfl, fun j => go 75 j 0 65535 rfl⟩
  · exact ⟨go 78 5 0 14 rfl, go 78 1 0 200 rfl, fun j => go 80 j 0 65535 rfl⟩
  · exact ⟨go 83 5 0 14 rfl, go 83 1 0 200 rfl, fun j => go 85 j 0 65535 rfl⟩
  · exact ⟨go 88 5 0 14 rfl, go 88 1 0 200 rfl, fun j => go 90 j 0 65535 rfl⟩
  · exact ⟨go 93 5 0 14 rfl, go 93 1 0 200 rfl, fun j => go 95 j 0 65535 rfl⟩
end
section
-- the week, first side: what a step leaves alone; undone (own work)
theorem fr_give {p l : Nat} {V J U : Nat → Nat → Int} {R : Nat → Nat → Nat} (hp : p < 8) (hl : l < 4) (h : f_s_giveTo 39 (p : Int) (l : Int) V J R U) : (∀ i : Nat, i ≠ 69 → i ≠ 70 → i ≠ 71 → i ≠ 39 → i ≠ 42 + 2 * l → i ≠ 50 + p → U i = V i) ∧ (∀ j : Nat, j ≠ 5 → j ≠ 6 → U 39 j = V 39 j) ∧ ∀ j : Nat, j ≠ 3 → U (50 + p) j = V (50 + p) j := by
  have same : U = V → (∀ i : Nat, i ≠ 69 → i ≠ 70 → i ≠ 71 → i ≠ 39 → i ≠ 42 + 2 * l → i ≠ 50 + p → U i = V i) ∧ (∀ j : Nat, j ≠ 5 → j ≠ 6 → U 39 j = V 39 j) ∧ ∀ j : Nat, j ≠ 3 → U (50 + p) j = V (50 + p) j := fun e => by
    rw [e]
    exact ⟨fun _ _ _ _ _ _ _ => rfl, fun _ _ _ => rfl, fun _ _ => rfl⟩
  unfold f_s_giveTo at h
  obtain ⟨z1, -, -, h⟩ := h
  by_cases g1 : z1 = 0
  · rw [if_pos g1] at h; exact same h
  rw [if_neg g1] at h
  obtain ⟨z4, -, -, h⟩ := h
  by_cases g4 : z4 = 0
  · rw [if_neg (fun hh => hh g4)] at h; exact same h
  rw [if_pos g4] at h
  obtain ⟨c7, e7, h⟩ := rdb_g h
  rw [Int.toNat_natCast] at e7
  have e7 : c7 = 42 + 2 * l := by omega
  subst e7
  obtain ⟨g, V8, -, F8, -, h⟩ := h
  obtain ⟨c9, e9, h⟩ := rdb_g h
  rw [Int.toNat_natCast] at e9
  have e9 : c9 = 50 + p := by omega
  subst e9
  obtain ⟨z10, e10, h⟩ := rdb_g h
  obtain ⟨z11, e11, h⟩ := rdb_g h
  obtain ⟨V12, e12, h⟩ := rdb_g h
  obtain ⟨z13, e13, h⟩ := rdb_g h
  obtain ⟨z14, e14, h⟩ := rdb_g h
  obtain ⟨V15, e15, h⟩ := rdb_g h
  obtain ⟨z16, e16, h⟩ := rdb_g h
  obtain ⟨z17, V17, h17, -, h⟩ := h
  unfold f_s_wetBy at h17
  obtain ⟨_, -, h17⟩ := rdb_g h17
  obtain ⟨_, -, h17⟩ := rdb_g h17
  obtain ⟨_, -, h17⟩ := rdb_g h17
  obtain ⟨w, -, h17⟩ := rdb_g h17
  obtain ⟨V16, e17, h17⟩ := rdb_g h17
  obtain ⟨_, -, h17⟩ := rdb_g h17
  simp only [rtn, Prod.mk.injEq] at h17
  obtain ⟨-, h17⟩ := h17
  obtain ⟨z18, e18, h⟩ := rdb_g h
  obtain ⟨V19, e19, h⟩ := rdb_g h
  have v8 : ∀ i : Nat, i ≠ 69 → i ≠ 70 → i ≠ 71 → V8 i = V i := fun i i1 i2 i3 => F8.row (i := i) (fun k hk => by omega)
  have fin : ∀ X : Nat → Nat → Int, (∀ i : Nat, i ≠ 42 + 2 * l → X i = V19 i) → U = X → (∀ i : Nat, i ≠ 69 → i ≠ 70 → i ≠ 71 → i ≠ 39 → i ≠ 42 + 2 * l → i ≠ 50 + p → U i = V i) ∧ (∀ j : Nat, j ≠ 5 → j ≠ 6 → U 39 j = V 39 j) ∧ ∀ j : Nat, j ≠ 3 → U (50 + p) j = V (50 + p) j := fun X hX e => by
    rw [e]
    have a : ∀ i : Nat, i ≠ 42 + 2 * l → i ≠ 39 → X i = V12 i := fun i i1 i2 => by rw [hX i i1, ← e19, up2_c _ _ i2, h17, ← e17, up2_c _ _ i1, ← e15, up2_c _ _ i2]
    refine ⟨fun i i1 i2 i3 i4 i5 i6 => by rw [a i i5 i4, ← e12, up2_c _ _ i6]; exact v8 i i1 i2 i3, fun j j1 j2 => ?_, fun j hj => ?_⟩
    · rw [hX 39 (by omega), ← e19, up2_n _ _ (Or.inr j2), h17, ← e17, up2_c _ _ (by omega), ← e15, up2_n _ _ (Or.inr j1), ← e12, up2_c _ _ (by omega), v8 39 (by decide) (by decide) (by decide)]
    · rw [a _ (by omega) (by omega), ← e12, up2_n _ _ (Or.inr hj), v8 _ (by omega) (by omega) (by omega)]
  by_cases g8 : g ≤ 0
  · rw [if_pos g8] at h
    exact fin V19 (fun _ _ => rfl) h
  rw [if_neg g8] at h
  obtain ⟨z21, -, -, h⟩ := rdb_g h
  by_cases g21 : z21 = 0
  · rw [if_pos g21] at h
    exact fin V19 (fun _ _ => rfl) h
  rw [if_neg g21] at h
  obtain ⟨_, -, h⟩ := rdb_g h
  obtain ⟨V24, e24, h⟩ := rdb_g h
  exact fin V24 (fun i hi => by rw [← e24, up2_c _ _ hi]) h
theorem fr_end {l : Nat} {V J U : Nat → Nat → Int} {R : Nat → Nat → Nat} (h : f_s_endDay 39 (l : Int) 0 V J R U) : (∀ i : Nat, i ≠ 69 → i ≠ 70 → i ≠ 71 → i ≠ 42 + 2 * l → i ≠ 43 + 2 * l → U i = V i) ∧ 0 ≤ U (42 + 2 * l) 2 := by
  unfold f_s_endDay at h
  obtain ⟨z1, V1, -, F1, -, h⟩ := h
  have h := jnk_d h
  rw [if_pos rfl] at h
  obtain ⟨c, ec, h⟩ := rdb_g h
  rw [Int.toNat_natCast] at ec
  have ec : c = 42 + 2 * l := by omega
  subst ec
  obtain ⟨V6, h6, F6, h⟩ := h
  have h : U = V6 := h
  refine ⟨fun i i1 i2 i3 i4 i5 => ?_, ?_⟩
  · rw [h, F6.row (i := i) (fun k hk => by omega), F1.row (i := i) (fun k hk => by omega)]
  · rw [h]
    unfold f_s_dryBy at h6
    obtain ⟨_, -, h6⟩ := rdb_g h6
    obtain ⟨_, -, h6⟩ := rdb_g h6
    obtain ⟨w, -, hw, h6⟩ := rdb_g h6
    obtain ⟨V4, e4, h6⟩ := rdb_g h6
    have fin : ∀ d r : Int, (rdb (up2 (up2 V4 (42 + 2 * l) 4 d) (42 + 2 * l) 5 r) fun V15 => rdb (cpV V15 (42 + 2 * l + 1) 0 (42 + 2 * l + 1) 1 6) fun V16 => rdb (V16 (42 + 2 * l) 2) fun z17 => rdb (up2 V16 (42 + 2 * l + 1) 0 z17) fun V18 => rtn V18) V6 → 0 ≤ V6 (42 + 2 * l) 2 := fun d r hh => by
      obtain ⟨V15, e15, hh⟩ := rdb_g hh
      obtain ⟨V16, e16, hh⟩ := rdb_g hh
      obtain ⟨_, -, hh⟩ := rdb_g hh
      obtain ⟨V18, e18, hh⟩ := rdb_g hh
      have hh : V6 = V18 := hh
      have e : V16 (42 + 2 * l) 2 = V15 (42 + 2 * l) 2 := by
        rw [← e16]
        unfold cpV
        rw [if_neg (by omega)]
      rw [hh, ← e18, up2_c _ _ (by omega), e, ← e15, up2_n _ _ (Or.inr (by decide)), up2_n _ _ (Or.inr (by decide)), ← e4, up2_s]
      exact hw.1
    simp only [jnk] at h6
    by_cases g : w = 0
    · rw [if_neg (fun hh => hh g)] at h6
      obtain ⟨_, -, h6⟩ := rdb_g h6
      obtain ⟨d, -, h6⟩ := rdb_g h6
      obtain ⟨V9, e9, h6⟩ := rdb_g h6
      obtain ⟨z10, -, h6⟩ := rdb_g h6
      subst e9
      by_cases g2 : w = z10
      · rw [if_neg (fun hh => hh g2)] at h6
        obtain ⟨_, -, h6⟩ := rdb_g h6
        obtain ⟨r, -, h6⟩ := rdb_g h6
        exact fin _ _ h6
      · rw [if_pos g2] at h6
        exact fin _ _ h6
    · rw [if_pos g] at h6
      obtain ⟨V9, e9, h6⟩ := rdb_g h6
      obtain ⟨z10, -, h6⟩ := rdb_g h6
      subst e9
      by_cases g2 : w = z10
      · rw [if_neg (fun hh => hh g2)] at h6
        obtain ⟨_, -, h6⟩ := rdb_g h6
        obtain ⟨r, -, h6⟩ := rdb_g h6
        exact fin _ _ h6
      · rw [if_pos g2] at h6
        exact fin _ _ h6
/-- the same landing as it is tried -/
theorem SL.rf (d : Nat) (V : Nat → Nat → Int) : SL d d V V := ⟨fun _ _ => ⟨fun _ _ => rfl, fun _ _ => rfl⟩, fun _ _ _ _ => rfl, fun _ _ _ => rfl⟩
theorem SL.tr {d : Nat} {U V X : Nat → Nat → Int} (h : SL d d U V) (k : SL d d X U) : SL d d X V := ⟨fun l hl => ⟨fun j hj => ((k.1 l hl).1 j hj).trans ((h.1 l hl).1 j hj), fun j hj => ((k.1 l hl).2 j hj).trans ((h.1 l hl).2 j hj)⟩, fun p hp j hj => (k.2.1 p hp j hj).trans (h.2.1 p hp j hj), fun j j1 j2 => (k.2.2 j j1 j2).trans (h.2.2 j j1 j2)⟩
/-- behind a step, a way below it and what undoes them: all is as it was -/
theorem fr_undo {l w : Nat} {V A B C D U : Nat → Nat → Int} {s g : Int} {c3 : Nat} (hl : l < 4) (hw : w < 8) (hc : 110 ≤ c3) (hg : V (50 + w) 3 = g) (hs : V 39 3 = s)
    (a1 : ∀ i : Nat, i ≤ 57 → i ≠ 39 → i ≠ 42 + 2 * l → i ≠ 43 + 2 * l → i ≠ 50 + w → A i = V i) (a2 : ∀ j : Nat, j ≠ 3 → j ≠ 5 → j ≠ 6 → A 39 j = V 39 j) (a3 : ∀ j : Nat, j ≠ 3 → A (50 + w) j = V (50 + w) j)
    (hB : SL 39 39 B A) (hC : ∀ i : Nat, i ≠ 39 → C i = B i) (c4 : ∀ j : Nat, j ≠ 3 → C 39 j = B 39 j) (c5 : C 39 3 = s)
    (d1 : ∀ i : Nat, i ≠ 42 + 2 * l → i ≠ 42 + 2 * l + 1 → D i = C i) (d2 : ∀ j : Nat, j < 8 → D (42 + 2 * l) j = V (42 + 2 * l) j) (d3 : ∀ j : Nat, j < 7 → D (42 + 2 * l + 1) j = V (42 + 2 * l + 1) j) (hU : U = up2 D (50 + w) 3 g) : SL 39 39 U V := by
  obtain ⟨b1, b2, b3⟩ := hB
  refine ⟨fun q hq => ⟨fun j hj => ?_, fun j hj => ?_⟩, fun p hp j hj => ?_, fun j j1 j2 => ?_⟩
  · rw [hU, up2_c _ _ (by omega)]
    by_cases e : q = l
    · rw [e, show 39 + 3 + 2 * l = 42 + 2 * l by omega]; exact d2 j hj
    · rw [d1 _ (by omega) (by omega), hC _ (by omega), (b1 q hq).1 j hj, a1 _ (by omega) (by omega) (by omega) (by omega) (by omega)]
  · rw [hU, up2_c _ _ (by omega)]
    by_cases e : q = l
    · rw [e, show 39 + 3 + 2 * l + 1 = 42 + 2 * l + 1 by omega]; exact d3 j hj
    · rw [d1 _ (by omega) (by omega), hC _ (by omega), (b1 q hq).2 j hj, a1 _ (by omega) (by omega) (by omega) (by omega) (by omega)]
  · by_cases e : p = w
    · rw [e, show 39 + 11 + w = 50 + w by omega]
      by_cases e3 : j = 3
      · rw [e3, hU, up2_s]; exact hg.symm
      · have k := b2 w hw j hj
        rw [show 39 + 11 + w = 50 + w by omega] at k
        rw [hU, up2_n _ _ (Or.inr e3), d1 _ (by omega) (by omega), hC _ (by omega), k, a3 j e3]
    · rw [hU, up2_c _ _ (by omega), d1 _ (by omega) (by omega), hC _ (by omega), b2 p hp j hj, a1 _ (by omega) (by omega) (by omega) (by omega) (by omega)]
  · rw [hU, up2_c _ _ (by omega), d1 39 (by omega) (by omega)]
    by_cases e3 : j = 3
    · rw [e3, c5]; exact hs.symm
    · rw [c4 j e3, b3 j j1 j2, a2 j e3 (by omega) (by omega)]
end
section
-- rows as numbers: who comes on a DAY, how many comings (own work)
def pw (m : Nat) : Nat → Nat
  | 0 => 1
  | r + 1 => (m + 1) * pw m r
theorem pw_p (m : Nat) : ∀ r : Nat, 0 < pw m r
  | 0 => Nat.one_pos
  | r + 1 => Nat.mul_pos (Nat.succ_pos m) (pw_p m r)
theorem pw_d (m c r : Nat) : (c % pw m (r + 1)) / pw m r = (c / pw m r) % (m + 1) := by
  show (c % ((m + 1) * pw m r)) / pw m r = _
  rw [Nat.mod_mul_left_div_self]
theorem pw_m (m c r : Nat) : (c % pw m (r + 1)) % pw m r = c % pw m r := Nat.mod_mod_of_dvd c (Nat.dvd_mul_left _ _)
theorem pw_b : ∀ m : Nat, m ≤ 3 → ∀ r : Nat, r ≤ 7 → pw m r ≤ 16384 := by decide
/-- how many come in the last r DAYS of a row -/
def cmr (m : Nat) : Nat → Nat → Nat
  | 0, _ => 0
  | r + 1, v => (if v / pw m r < m then 1 else 0) + cmr m r (v % pw m r)
theorem cmr_b (m : Nat) : ∀ r v : Nat, cmr m r v ≤ r
  | 0, _ => Nat.le_refl 0
  | r + 1, v => by
    have := cmr_b m r (v % pw m r)
    show (if v / pw m r < m then 1 else 0) + cmr m r (v % pw m r) ≤ r + 1
    split <;> omega
/-- who comes on the DAY k -/
def dgt (m c k : Nat) : Nat := (c / pw m (6 - k)) % (m + 1)
theorem q_comingIn {c m k : Nat} {r : Int} (hm : m ≤ 3) (hc : c < 2147483648) (hk : k ≤ 6) (h : f_m_comingIn (c : Int) (m : Int) (k : Int) r) : r = (dgt m c k : Int) := by
  unfold f_m_comingIn at h
  obtain ⟨b, hb, h⟩ := lop2_g h
  have key : ∀ (f j v : Nat), k ≤ j → j ≤ 6 → v = c / pw m (6 - j) → lop2 f b (j : Int) (v : Int) r → r = (dgt m c k : Int) := by
    intro f
    induction f with
    | zero => intro j v _ _ _ h; exact False.elim h
    | succ f ih =>
      intro j v hj hj6 hv h
      rw [lop2_s hb] at h
      have hvc : v ≤ c := by rw [hv]; exact Nat.div_le_self _ _
      by_cases g : (j : Int) ≤ k
      · rw [if_pos g] at h
        obtain ⟨x, ex, -, h⟩ := rdb_g h
        rw [show ((m : Int) + 1) = ((m + 1 : Nat) : Int) by omega, iRem_p (by omega) (by omega)] at ex
        have h : r = x := h
        have ej : j = k := by omega
        rw [h, ← ex, hv, ej]
        unfold dgt
        exact (Int.natCast_emod _ _).symm
      · rw [if_neg g] at h
        obtain ⟨x, ex, -, h⟩ := rdb_g h
        rw [show ((m : Int) + 1) = ((m + 1 : Nat) : Int) by omega, iDiv_p (by omega) (by omega)] at ex
        have ex : x = ((v / (m + 1) : Nat) : Int) := by rw [← ex]; exact (Int.natCast_ediv _ _).symm
        rw [ex, show ((j : Int) - 1) = ((j - 1 : Nat) : Int) by omega] at h
        refine ih (j - 1) _ (by omega) (by omega) ?_ h
        rw [hv, Nat.div_div_eq_div_mul, show 6 - (j - 1) = (6 - j) + 1 by omega]
        show c / (pw m (6 - j) * (m + 1)) = c / ((m + 1) * pw m (6 - j))
        rw [Nat.mul_comm]
  refine key 8 6 c (by omega) (Nat.le_refl _) ?_ h
  show c = c / 1
  rw [Nat.div_one]
theorem q_comings {c m : Nat} {r : Int} (hm : m ≤ 3) (hc : c < 2147483648) (h : f_m_comings (c : Int) (m : Int) r) : r = (cmr m 7 (c % pw m 7) : Int) := by
  unfold f_m_comings at h
  obtain ⟨b, hb, h⟩ := lop2_g h
  have key : ∀ (f k acc : Nat), k ≤ 7 → acc ≤ k → acc + cmr m (7 - k) (c % pw m (7 - k)) = cmr m 7 (c % pw m 7) → lop2 f b (k : Int) (acc : Int) r → r = (cmr m 7 (c % pw m 7) : Int) := by
    intro f
    induction f with
    | zero => intro k acc _ _ _ h; exact False.elim h
    | succ f ih =>
      intro k acc hk ha hs h
      rw [lop2_s hb] at h
      by_cases g : (7 : Int) ≤ k
      · rw [if_pos g] at h
        have h : r = (acc : Int) := h
        have ek : k = 7 := by omega
        subst ek
        rw [h, ← hs]
        rfl
      · rw [if_neg g] at h
        obtain ⟨d, hd, -, h⟩ := h
        have hd := q_comingIn hm hc (by omega) hd
        have step : cmr m (7 - k) (c % pw m (7 - k)) = (if dgt m c k < m then 1 else 0) + cmr m (6 - k) (c % pw m (6 - k)) := by
          rw [show 7 - k = (6 - k) + 1 by omega]
          show (if (c % pw m (6 - k + 1)) / pw m (6 - k) < m then 1 else 0) + cmr m (6 - k) ((c % pw m (6 - k + 1)) % pw m (6 - k)) = _
          rw [pw_d, pw_m]
          rfl
        rw [step] at hs
        simp only [jnk, rdb] at h
        by_cases gd : (m : Int) ≤ d
        · rw [if_pos gd] at h
          rw [if_neg (c := dgt m c k < m) (by omega)] at hs
          rw [wr_id (z := (acc : Int) + 0) ⟨by omega, by omega⟩, show ((k : Int) + 1) = ((k + 1 : Nat) : Int) by omega, show (acc : Int) + 0 = ((acc : Nat) : Int) by omega] at h
          exact ih (k + 1) acc (by omega) (by omega) (by rw [show 7 - (k + 1) = 6 - k by omega]; omega) h
        · rw [if_neg gd] at h
          rw [if_pos (c := dgt m c k < m) (by omega)] at hs
          rw [wr_id (z := (acc : Int) + 1) ⟨by omega, by omega⟩, show ((k : Int) + 1) = ((k + 1 : Nat) : Int) by omega, show (acc : Int) + 1 = ((acc + 1 : Nat) : Int) by omega] at h
          exact ih (k + 1) (acc + 1) (by omega) (by omega) (by rw [show 7 - (k + 1) = 6 - k by omega]; omega) h
  exact key 9 0 0 (by omega) (Nat.le_refl _) (by rw [Nat.zero_add]) h
end
section
-- the week: a row's way in the reference beside one step of the first side (own work)
/-- the reference's loop over the DAYS of a row -/
def wkB (l m code : Int) (J : Nat → Nat → Int) (Rr : Nat → Nat → Nat) : (Int → (Nat → Nat → Int) → (Int × (Nat → Nat → Int)) → Prop) → Int → (Nat → Nat → Int) → (Int × (Nat → Nat → Int)) → Prop :=
  fun rc286 (z285 : Int) (V286 : Nat → Nat → Int) => jnk (fun (un353 : Unit) => calR (f_m_lives l V286 J Rr) fun z354 => fct (0 ≤ z354 ∧ z354 ≤ 1) <| jnk (fun (z359 : Int) => rdb (cpN V286 2 1 81) fun V361 => rtn (z359, V361)) fun jf360 => (if z354 = 0 then jf360 ((-1)) else rdb (V286 1 ((l + 12).toNat)) fun z364 => fct (0 ≤ z364 ∧ z364 ≤ 8) <| rdb (V286 1 ((l + 16).toNat)) fun z365 => fct (0 ≤ z365 ∧ z365 ≤ 8) <| rdb (V286 1 ((l + 4).toNat)) fun z366 => fct (0 ≤ z366 ∧ z366 ≤ 24) <| jf360 z366)) fun jf353 => (if 7 ≤ z285 then jf353 (()) else calR (f_m_lives l V286 J Rr) fun z368 => fct (0 ≤ z368 ∧ z368 ≤ 1) <| (if z368 = 0 then jf353 (()) else rdb (V286 1 ((l + 12).toNat)) fun z371 => fct (0 ≤ z371 ∧ z371 ≤ 8) <| rdb (V286 1 ((l + 16).toNat)) fun z372 => fct (0 ≤ z372 ∧ z372 ≤ 8) <| calR (f_m_comingIn code m z285) fun z373 => fct (0 ≤ z373 ∧ z373 ≤ 3) <| (if m ≤ z373 then calUM 7253591811175922467340288 V286 (f_m_dries l 0 V286 J Rr) fun V375 => rdb (V375 1 79) fun z376 => rdb (wr (z376 + 1)) fun z377 => rdb (up2 V375 1 79 z377) fun V378 => rc286 (z285 + 1) V378 else rdb (V286 20 z373.toNat) fun z379 => fct (0 ≤ z379 ∧ z379 ≤ 7) <| calUM 16924998368092956267642880 V286 (f_m_waters z379 l V286 J Rr) fun V380 => calUM 7253591811175922467340288 V380 (f_m_dries l 0 V380 J Rr) fun V381 => rdb (V381 1 79) fun z382 => rdb (wr (z382 + 1)) fun z383 => rdb (up2 V381 1 79 z383) fun V384 => rc286 (z285 + 1) V384)))
/-- the tried landing on the first side, the landing on the other -/
def zRel (R : Nat → Nat → Nat) (l m d : Nat) (V W : Nat → Nat → Int) : Prop := RLz 39 V (W 1) ∧ RTx R V W ∧ bt (W 1 76) (l : Int) = 1 ∧ W 1 79 ≤ 9999 + d ∧ ∀ j : Nat, j < m → V 107 j = W 20 j ∧ (0 ≤ W 20 j ∧ W 20 j < 8) ∧ bt (W 1 78) (W 20 j) = 1
theorem zRel.liv {R : Nat → Nat → Nat} {l m d : Nat} {V W : Nat → Nat → Int} (h : zRel R l m d V W) (hl : l < 4) : ¬ dedX (V (42 + 2 * l)) ↔ ¬ bt (W 1 77) (l : Int) = 1 := by
  have k := (h.1.1 l hl).2.2.2.2.2.2.2.2.1
  rw [show 39 + 3 + 2 * l = 42 + 2 * l by omega] at k
  exact ⟨fun a b => a (k.mp b), fun a b => a (k.mpr b)⟩
theorem wk_out {l m d : Nat} {w : Int} {V W X J : Nat → Nat → Int} {R Rm : Nat → Nat → Nat} (hl : l < 4) (h : zRel R l m d V W) (hx : (calR (f_m_lives (l : Int) W J Rm) fun z354 => fct (0 ≤ z354 ∧ z354 ≤ 1) <| jnk (fun (z359 : Int) => rdb (cpN W 2 1 81) fun V361 => rtn (z359, V361)) fun jf360 => (if z354 = 0 then jf360 ((-1)) else rdb (W 1 (((l : Int) + 12).toNat)) fun z364 => fct (0 ≤ z364 ∧ z364 ≤ 8) <| rdb (W 1 (((l : Int) + 16).toNat)) fun z365 => fct (0 ≤ z365 ∧ z365 ≤ 8) <| rdb (W 1 (((l : Int) + 4).toNat)) fun z366 => fct (0 ≤ z366 ∧ z366 ≤ 24) <| jf360 z366)) (w, X)) : (dedX (V (42 + 2 * l)) → w = -1) ∧ (¬ dedX (V (42 + 2 * l)) → w = V (42 + 2 * l) 2) := by
  obtain ⟨z, hz, -, hx⟩ := hx
  have hz := q_mLives hz
  have hv := h.liv hl
  have hx := jnk_d hx
  have w2 := (h.1.1 l hl).2.2.1
  rw [show 39 + 3 + 2 * l = 42 + 2 * l by omega] at w2
  by_cases g : z = 0
  · rw [if_pos g] at hx
    simp only [rdb, rtn, Prod.mk.injEq] at hx
    refine ⟨fun _ => hx.1, fun nd => ?_⟩
    have := hv.mp nd
    exact absurd ⟨⟨by omega, by omega, h.2.2.1⟩, this⟩ (hz.off g)
  · rw [if_neg g] at hx
    obtain ⟨_, -, -, hx⟩ := rdb_g hx
    obtain ⟨_, -, -, hx⟩ := rdb_g hx
    obtain ⟨t, et, -, hx⟩ := rdb_g hx
    rw [show ((l : Int) + 4).toNat = 4 + l by omega] at et
    simp only [rdb, rtn, Prod.mk.injEq] at hx
    have q := hz.on g
    refine ⟨fun dd => absurd dd (hv.mpr q.2), fun _ => ?_⟩
    rw [hx.1, ← et, w2]
/-- dead, or the seventh DAY is over -/
theorem wk_end {l m d n : Nat} {k code w : Int} {V W X J : Nat → Nat → Int} {R Rm : Nat → Nat → Nat} (hl : l < 4) (h : zRel R l m d V W) (hc : 7 ≤ k ∨ dedX (V (42 + 2 * l))) (hx : lop2 n (wkB (l : Int) (m : Int) code J Rm) k W (w, X)) : (dedX (V (42 + 2 * l)) → w = -1) ∧ (¬ dedX (V (42 + 2 * l)) → w = V (42 + 2 * l) 2) := by
  cases n with
  | zero => exact False.elim hx
  | succ n =>
    have hx : wkB (l : Int) (m : Int) code J Rm (lop2 n (wkB (l : Int) (m : Int) code J Rm)) k W (w, X) := hx
    unfold wkB at hx
    have hx := jnk_d hx
    by_cases g : 7 ≤ k
    · rw [if_pos g] at hx
      exact wk_out hl h hx
    · rw [if_neg g] at hx
      obtain ⟨z, hz, -, hx⟩ := hx
      have hz := q_mLives hz
      have z0 : z = 0 := by
        rcases hz with ⟨-, q⟩ | ⟨q, -⟩
        · exact absurd (hc.resolve_left g) ((h.liv hl).mpr q.2)
        · exact q
      rw [if_pos z0] at hx
      exact wk_out hl h hx
/-- one DAY of a row on both sides -/
theorem wk_step {l m d n q code : Nat} {w : Int} {V A B C W X Jx Jm : Nat → Nat → Int} {R Rm : Nat → Nat → Nat} (hl : l < 4) (hm : m ≤ 3) (hd : d < 7) (hcode : code < 2147483648) (hq : dgt m code d = q) (h : zRel R l m d V W) (hliv : ¬ dedX (V (42 + 2 * l)))
    (hA : (q < m → f_s_giveTo 39 (V 107 q) (l : Int) V Jx R A) ∧ (¬ q < m → A = V)) (hA107 : A 107 = V 107) (hB : f_s_endDay 39 (l : Int) 0 A Jx R B) (hC : C = up2 B 39 3 (wr (B 39 3 + 1))) (hx : lop2 n (wkB (l : Int) (m : Int) (code : Int) Jm Rm) (d : Int) W (w, X)) :
    ∃ (n2 : Nat) (W2 : Nat → Nat → Int), zRel R l m (d + 1) C W2 ∧ lop2 n2 (wkB (l : Int) (m : Int) (code : Int) Jm Rm) ((d + 1 : Nat) : Int) W2 (w, X) := by
  cases n with
  | zero => exact False.elim hx
  | succ n =>
    have hx : wkB (l : Int) (m : Int) (code : Int) Jm Rm (lop2 n (wkB (l : Int) (m : Int) (code : Int) Jm Rm)) (d : Int) W (w, X) := hx
    have hv := h.liv hl
    obtain ⟨r1, r2, r3, r4, r5⟩ := h
    have n77 := hv.mp hliv
    unfold wkB at hx
    have hx := jnk_d hx
    rw [if_neg (by omega)] at hx
    obtain ⟨z, hz, -, hx⟩ := hx
    have hz := q_mLives hz
    have z0 : ¬ z = 0 := fun hh => hz.off hh ⟨⟨by omega, by omega, r3⟩, n77⟩
    rw [if_neg z0] at hx
    obtain ⟨_, -, -, hx⟩ := rdb_g hx
    obtain ⟨_, -, -, hx⟩ := rdb_g hx
    obtain ⟨dg, hdg, -, hx⟩ := hx
    have hdg := q_comingIn hm hcode (by omega) hdg
    rw [hq] at hdg
    subst hdg
    have fin : ∀ (A2 B2 C2 : Nat → Nat → Int), RLz 39 A (A2 1) → RTx R A A2 → A2 1 76 = W 1 76 → (¬ bt (A2 1 77) (l : Int) = 1) → A2 1 78 = W 1 78 → A2 1 79 = W 1 79 → A2 20 = W 20 → f_m_dries (l : Int) 0 A2 Jm Rm B2 → FBm 7253591811175922467340288 A2 B2 → up2 B2 1 79 (wr (B2 1 79 + 1)) = C2 → zRel R l m (d + 1) C C2 := fun A2 B2 C2 a1 a2 a3 a4 a5 a6 a7 hb F hc => by
      obtain ⟨d1, -, d3, ⟨d4, d5⟩, d6⟩ := d_endL (Or.inr (Or.inr rfl)) hl a1 a2 (by rw [a3]; exact r3) a4 hB hb
      have dr := k_dries hl hb
      have h0 := d1.2.2.2.2.2.2.2.2.1
      have d5' : B2 1 79 = W 1 79 := by rw [d5, a6]
      have b39 : B 39 3 = B2 1 79 := d1.2.2.2.1
      have e79 : wr (B2 1 79 + 1) = W 1 79 + 1 := by rw [d5']; rw [d5'] at h0; exact wr_id ⟨by omega, by omega⟩
      have c2o : ∀ k : Nat, k ≠ 79 → C2 1 k = B2 1 k := fun k hk => by rw [← hc, up2_n _ _ (Or.inr hk)]
      have c79 : C2 1 79 = W 1 79 + 1 := by rw [← hc, up2_s, e79]
      have c2r : ∀ i : Nat, i ≠ 1 → C2 i = B2 i := fun i hi => by rw [← hc, up2_c _ _ hi]
      have co : ∀ i : Nat, i ≠ 39 → C i = B i := fun i hi => by rw [hC, up2_c _ _ hi]
      have b20 : B2 20 = W 20 := by rw [F.rw 20 (by decide) (by decide)]; exact a7
      have b107 : B 107 = V 107 := by rw [d6 107 (by decide) (by decide) (by decide) (by omega) (by omega)]; exact hA107
      refine ⟨?_, ?_, ?_, ?_, fun j hj => ?_⟩
      · refine d1.cg (fun i i1 i2 => co i (by omega)) (fun k hk => c2o k (by omega)) ?_ ?_ ?_ ?_ ?_
        · rw [hC, up2_n _ _ (Or.inr (by decide))]
        · rw [hC, up2_s, b39, c79, e79]
        · rw [hC, up2_n _ _ (Or.inr (by decide)), c2o 80 (by decide)]; exact d1.2.2.2.2.1
        · rw [c79]; rw [d5'] at h0; omega
        · rw [c2o 80 (by decide)]; exact d1.2.2.2.2.2.2.2.2.2
      · exact d3.cg (fun i i1 i2 i3 => co i (by omega)) (fun i i1 i2 => c2r i (by omega))
      · rw [c2o 76 (by decide), dr 76 (by decide) (by decide), a3]; exact r3
      · rw [c79]; omega
      · rw [co 107 (by decide), b107, c2r 20 (by decide), b20, c2o 78 (by decide), d4, a5]
        exact r5 j hj
    by_cases g : q < m
    · rw [if_neg (by omega)] at hx
      obtain ⟨e1, e2, e3⟩ := r5 q g
      obtain ⟨p, ep, -, hx⟩ := rdb_g hx
      rw [Int.toNat_natCast] at ep
      obtain ⟨A2, ha, FA, hx⟩ := hx
      obtain ⟨B2, hb, FB2, hx⟩ := hx
      obtain ⟨t1, et1, hx⟩ := rdb_g hx
      obtain ⟨t2, et2, hx⟩ := rdb_g hx
      obtain ⟨C2, hc, hx⟩ := rdb_g hx
      obtain ⟨pn, hpn⟩ : ∃ pn : Nat, p = (pn : Int) := ⟨p.toNat, by omega⟩
      have hgv := hA.1 g
      rw [e1, ep, hpn] at hgv
      rw [ep, hpn] at e3
      rw [hpn] at ha
      obtain ⟨g1, -, g3, g4, g5⟩ := d_giveL (Or.inr (Or.inr rfl)) (by omega) hl r1 r2 e3 r3 n77 hgv ha
      have kw := k_waters ha
      refine ⟨n, C2, fin A2 B2 C2 g1 g3 (kw 76 (by omega) (by omega) (by omega)) (by rw [kw 77 (by omega) (by omega) (by omega)]; exact n77) g4 g5 (FA.rw 20 (by decide) (by decide)) hb FB2 (by rw [et1, et2]; exact hc), ?_⟩
      rw [show ((d + 1 : Nat) : Int) = (d : Int) + 1 by omega]
      exact hx
    · rw [if_pos (by omega)] at hx
      obtain ⟨B2, hb, FB2, hx⟩ := hx
      obtain ⟨t1, et1, hx⟩ := rdb_g hx
      obtain ⟨t2, et2, hx⟩ := rdb_g hx
      obtain ⟨C2, hc, hx⟩ := rdb_g hx
      have eA := hA.2 g
      refine ⟨n, C2, fin W B2 C2 (by rw [eA]; exact r1) (by rw [eA]; exact r2) rfl n77 rfl rfl rfl hb FB2 (by rw [et1, et2]; exact hc), ?_⟩
      rw [show ((d + 1 : Nat) : Int) = (d : Int) + 1 by omega]
      exact hx
end
section
-- the week: one call of the search, whatever is called below it (own work)
def goB (P : Nat → Nat → Prop) (G : Int → Int → (Nat → Nat → Int) → (Nat → Nat → Int) → (Nat → Nat → Nat) → (Nat → Nat → Int) → Prop) (x3 : Int) (x4 : Int) (V : Nat → Nat → Int) (J : Nat → Nat → Int) (Rr : Nat → Nat → Nat) : (Nat → Nat → Int) → Prop :=
  rdb (V 105 5) fun z1 => fct (0 ≤ z1 ∧ z1 ≤ 3) <| rdb (39 + 3 + 2 * z1.toNat) fun c2 => rdb (110 + 2 * x3.toNat) fun c3 => calUX (fun i k : Nat => (c3 ≤ i ∧ i ≤ c3 + 1)) V (f_s_copyP c3 c2 V J Rr) fun V4 => rdb (V4 105 4) fun z5 => fct (0 ≤ z5 ∧ z5 ≤ 3) <| lop2 (6) (fun rc182 (z181 : Int) (V182 : Nat → Nat → Int) => (if z181 < 0 then rtn V182 else rdb (V182 105 4) fun z272 => fct (0 ≤ z272 ∧ z272 ≤ 3) <| (if z272 ≤ z181 then rdb (V182 105 6) fun z274 => jnk (fun (V293 : Nat → Nat → Int) => rc182 (z181 - 1) V293) fun jf293 => (if x4 ≤ z274 then rdb (39 + 11 + 1 * 0) fun c295 => rdb (V182 c295 3) fun z296 => rdb (V182 105 5) fun z297 => fct (0 ≤ z297 ∧ z297 ≤ 3) <| calUX (fun i k : Nat => (69 ≤ i ∧ i ≤ 71) ∨ (39 ≤ i ∧ i ≤ 39 + 18)) V182 (f_s_endDay 39 z297 0 V182 J Rr) fun V298 => rdb (V298 39 3) fun z299 => rdb (wr (z299 + 1)) fun z300 => rdb (up2 V298 39 3 z300) fun V301 => rdb (up2 V301 108 x3.toNat z181) fun V302 => calR (f_s_isDeadP c2 V302 J Rr) fun z303 => fct (0 ≤ z303 ∧ z303 ≤ 1) <| jnk (fun (V305 : Nat → Nat → Int) => rdb (V305 39 3) fun z306 => rdb (wr (z306 - 1)) fun z307 => rdb (up2 V305 39 3 z307) fun V308 => calUX (fun i k : Nat => (c2 ≤ i ∧ i ≤ c2 + 1)) V308 (f_s_copyP c2 c3 V308 J Rr) fun V309 => rdb (up2 V309 c295 3 z296) fun V310 => jf293 V310) fun jf305 => (if ¬ z303 = 0 then jf305 V302 else calUX P V302 (G (x3 + 1) x4 V302 J Rr) fun V312 => jf305 V312) else jf293 V182) else rdb (wr (x4 + 1)) fun z313 => rdb (V182 105 6) fun z314 => jnk (fun (V336 : Nat → Nat → Int) => rc182 (z181 - 1) V336) fun jf336 => (if z313 ≤ z314 then rdb (V182 107 z181.toNat) fun z338 => fct (0 ≤ z338 ∧ z338 ≤ 7) <| rdb (39 + 11 + 1 * z338.toNat) fun c339 => rdb (V182 c339 3) fun z340 => rdb (V182 105 5) fun z341 => fct (0 ≤ z341 ∧ z341 ≤ 3) <| calUX (fun i k : Nat => (69 ≤ i ∧ i ≤ 71) ∨ (39 ≤ i ∧ i ≤ 39 + 18)) V182 (f_s_giveTo 39 z338 z341 V182 J Rr) fun V342 => rdb (V342 105 5) fun z343 => fct (0 ≤ z343 ∧ z343 ≤ 3) <| calUX (fun i k : Nat => (69 ≤ i ∧ i ≤ 71) ∨ (39 ≤ i ∧ i ≤ 39 + 18)) V342 (f_s_endDay 39 z343 0 V342 J Rr) fun V344 => rdb (V344 39 3) fun z345 => rdb (wr (z345 + 1)) fun z346 => rdb (up2 V344 39 3 z346) fun V347 => rdb (up2 V347 108 x3.toNat z181) fun V348 => calR (f_s_isDeadP c2 V348 J Rr) fun z349 => fct (0 ≤ z349 ∧ z349 ≤ 1) <| jnk (fun (V351 : Nat → Nat → Int) => rdb (V351 39 3) fun z352 => rdb (wr (z352 - 1)) fun z353 => rdb (up2 V351 39 3 z353) fun V354 => calUX (fun i k : Nat => (c2 ≤ i ∧ i ≤ c2 + 1)) V354 (f_s_copyP c2 c3 V354 J Rr) fun V355 => rdb (up2 V355 c339 3 z340) fun V356 => jf336 V356) fun jf351 => (if ¬ z349 = 0 then jf351 V348 else calUX P V348 (G (x3 + 1) z313 V348 J Rr) fun V358 => jf351 V358) else jf336 V182)))) z5 V4
theorem go0_e : f_s_go0 = goB (fun i k : Nat => (105 ≤ i ∧ i ≤ 123) ∨ (69 ≤ i ∧ i ≤ 71) ∨ (39 ≤ i ∧ i ≤ 57)) f_s_go1 := rfl
theorem go1_e : f_s_go1 = goB (fun i k : Nat => (105 ≤ i ∧ i ≤ 123) ∨ (69 ≤ i ∧ i ≤ 71) ∨ (39 ≤ i ∧ i ≤ 57)) f_s_go2 := rfl
theorem go2_e : f_s_go2 = goB (fun i k : Nat => (105 ≤ i ∧ i ≤ 123) ∨ (69 ≤ i ∧ i ≤ 71) ∨ (39 ≤ i ∧ i ≤ 57)) f_s_go3 := rfl
theorem go3_e : f_s_go3 = goB (fun i k : Nat => (105 ≤ i ∧ i ≤ 123) ∨ (69 ≤ i ∧ i ≤ 71) ∨ (39 ≤ i ∧ i ≤ 57)) f_s_go4 := rfl
theorem go4_e : f_s_go4 = goB (fun i k : Nat => (105 ≤ i ∧ i ≤ 123) ∨ (69 ≤ i ∧ i ≤ 71) ∨ (39 ≤ i ∧ i ≤ 57)) f_s_go5 := rfl
theorem go5_e : f_s_go5 = goB (fun i k : Nat => (105 ≤ i ∧ i ≤ 123) ∨ (69 ≤ i ∧ i ≤ 71) ∨ (39 ≤ i ∧ i ≤ 57)) f_s_go6 := rfl
theorem go6_e : f_s_go6 = goB (fun i k : Nat => (105 ≤ i ∧ i ≤ 123)) f_s_go7 := rfl
end
section
-- the week: what a call of the search finds (own work)
/-- by every row whose last DAYS are v the reference comes to o from here -/
def zOut (R : Nat → Nat → Nat) (l m d : Nat) (V : Nat → Nat → Int) (v : Nat) (o : Int) : Prop := ∀ (Jm : Nat → Nat → Int) (Rm : Nat → Nat → Nat) (code n : Nat) (W X : Nat → Nat → Int) (w : Int), code % pw m (7 - d) = v → code < 2147483648 → zRel R l m d V W → lop2 n (wkB (l : Int) (m : Int) (code : Int) Jm Rm) (d : Int) W (w, X) → w = o
/-- what stays -/
def zFr (d : Nat) (V U : Nat → Nat → Int) : Prop := SL 39 39 U V ∧ (U 105 4 = V 105 4 ∧ U 105 5 = V 105 5) ∧ U 107 = V 107 ∧ (∀ j : Nat, j < d → U 108 j = V 108 j) ∧ (∀ i : Nat, 110 ≤ i → i < 110 + 2 * d → U i = V i) ∧ ∀ i : Nat, i < 39 ∨ (58 ≤ i ∧ i < 69) ∨ (72 ≤ i ∧ i < 105) → U i = V i
/-- what was found among the rows of D -/
def zTk (R : Nat → Nat → Nat) (l m d came : Nat) (D : Nat → Prop) (V Y : Nat → Nat → Int) : Prop := Y 105 6 ≤ V 105 6 ∧
  ((∃ b : Nat, b < pw m (7 - d) ∧ D b ∧ Y 105 6 = ((came + cmr m (7 - d) b : Nat) : Int) ∧ (∀ j : Nat, j < d → Y 109 j = V 108 j) ∧ (∀ code : Nat, code % pw m (7 - d) = b → ∀ j : Nat, d ≤ j → j < 7 → Y 109 j = (dgt m code j : Int)) ∧ 0 ≤ Y 105 7 ∧ zOut R l m d V b (Y 105 7) ∧
      ∀ v : Nat, v < pw m (7 - d) → D v → (((came + cmr m (7 - d) v : Nat) : Int) < Y 105 6 ∨ (((came + cmr m (7 - d) v : Nat) : Int) = Y 105 6 ∧ v < b)) → zOut R l m d V v (-1)) ∨
   (Y 105 6 = V 105 6 ∧ Y 105 7 = V 105 7 ∧ Y 109 = V 109 ∧ ∀ v : Nat, v < pw m (7 - d) → D v → ((came + cmr m (7 - d) v : Nat) : Int) ≤ Y 105 6 → zOut R l m d V v (-1)))
theorem zFr.rf (d : Nat) (V : Nat → Nat → Int) : zFr d V V := ⟨SL.rf 39 V, ⟨rfl, rfl⟩, rfl, fun _ _ => rfl, fun _ _ _ => rfl, fun _ _ => rfl⟩
theorem zFr.tr {d : Nat} {V U X : Nat → Nat → Int} (h : zFr d V U) (k : zFr d U X) : zFr d V X := ⟨h.1.tr k.1, ⟨k.2.1.1.trans h.2.1.1, k.2.1.2.trans h.2.1.2⟩, k.2.2.1.trans h.2.2.1, fun j hj => (k.2.2.2.1 j hj).trans (h.2.2.2.1 j hj), fun i i1 i2 => (k.2.2.2.2.1 i i1 i2).trans (h.2.2.2.2.1 i i1 i2), fun i hi => (k.2.2.2.2.2 i hi).trans (h.2.2.2.2.2 i hi)⟩
theorem zRel.fr {R : Nat → Nat → Nat} {l m d e : Nat} {V U W : Nat → Nat → Int} (h : zRel R l m d V W) (hF : zFr e V U) : zRel R l m d U W := by
  obtain ⟨r1, r2, r3, r4, r5⟩ := h
  obtain ⟨f1, f2, f3, f4, f5, f6⟩ := hF
  refine ⟨r1.copy f1 (fun _ _ => rfl), r2.cg (fun i i1 i2 i3 => f6 i (by omega)) (fun _ _ _ => rfl), r3, r4, ?_⟩
  rw [f3]
  exact r5
theorem zOut.fr {R : Nat → Nat → Nat} {l m d e : Nat} {V U : Nat → Nat → Int} {v : Nat} {o : Int} (h : zOut R l m d U v o) (hF : zFr e V U) : zOut R l m d V v o := fun Jm Rm code n W X w hv hc hz hx => h Jm Rm code n W X w hv hc (hz.fr hF) hx
theorem SL.ded {l : Nat} {U V : Nat → Nat → Int} (hl : l < 4) (h : SL 39 39 U V) : dedX (U (42 + 2 * l)) ↔ dedX (V (42 + 2 * l)) := by
  have k := (h.1 l hl).1
  rw [show 39 + 3 + 2 * l = 42 + 2 * l by omega] at k
  unfold dedX
  rw [k 0 (by decide), k 3 (by decide), k 4 (by decide), k 5 (by decide)]
/-- the calls at depth d -/
def zGo (R : Nat → Nat → Nat) (l m d : Nat) (G : Int → Int → (Nat → Nat → Int) → (Nat → Nat → Int) → (Nat → Nat → Nat) → (Nat → Nat → Int) → Prop) : Prop := ∀ (came : Nat) (V J U : Nat → Nat → Int), G (d : Int) (came : Int) V J R U → V 105 4 = (m : Int) → V 105 5 = (l : Int) → ¬ dedX (V (42 + 2 * l)) → 0 ≤ V (42 + 2 * l) 2 → (0 ≤ V 39 3 ∧ V 39 3 ≤ 20000 + d) → (came : Int) ≤ V 105 6 → came ≤ d → (∀ j : Nat, j < m → 0 ≤ V 107 j ∧ V 107 j < 8) → zFr d V U ∧ zTk R l m d came (fun _ => True) V U
theorem go7_s {R : Nat → Nat → Nat} {l m : Nat} (hl : l < 4) : zGo R l m 7 f_s_go7 := by
  intro came V J U h h4 h5 hal hwn hday hcm hcd hwho
  unfold f_s_go7 at h
  rw [h5] at h
  obtain ⟨-, h⟩ := h
  obtain ⟨c, ec, h⟩ := rdb_g h
  rw [Int.toNat_natCast] at ec
  have ec : c = 42 + 2 * l := by omega
  subst ec
  obtain ⟨w, ew, h⟩ := rdb_g h
  subst ew
  obtain ⟨V4, h, -, hU⟩ := h
  have hU : U = V4 := hU
  unfold f_s_takeRow at h
  obtain ⟨V1, e1, h⟩ := rdb_g h
  obtain ⟨V2, e2, h⟩ := rdb_g h
  obtain ⟨V3, e3, h⟩ := rdb_g h
  have h : V4 = V3 := h
  rw [h] at hU
  have a6 : U 105 6 = (came : Int) := by
    rw [hU, ← e3]
    unfold cpV
    rw [if_neg (by omega), ← e2, up2_n _ _ (Or.inr (by decide)), ← e1, up2_s]
  have a7 : U 105 7 = V (42 + 2 * l) 2 := by
    rw [hU, ← e3]
    unfold cpV
    rw [if_neg (by omega), ← e2, up2_s]
  have a9 : ∀ j : Nat, j < 7 → U 109 j = V 108 j := fun j hj => by
    rw [hU, ← e3]
    unfold cpV
    rw [if_pos ⟨rfl, by omega, by omega⟩, ← e2, up2_c _ _ (by decide), ← e1, up2_c _ _ (by decide)]
    rw [show 0 + (j - 0) = j by omega]
  have ao : ∀ i k : Nat, i ≠ 109 → (i ≠ 105 ∨ (k ≠ 6 ∧ k ≠ 7)) → U i k = V i k := fun i k i1 i2 => by
    rw [hU, ← e3]
    unfold cpV
    rw [if_neg (by omega), ← e2, up2_n _ _ (by omega), ← e1, up2_n _ _ (by omega)]
  have ar : ∀ i : Nat, i ≠ 109 → i ≠ 105 → U i = V i := fun i i1 i2 => funext fun k => ao i k i1 (Or.inl i2)
  refine ⟨⟨⟨fun q hq => ⟨fun j hj => by rw [ar _ (by omega) (by omega)], fun j hj => by rw [ar _ (by omega) (by omega)]⟩, fun p hp j hj => by rw [ar _ (by omega) (by omega)], fun j j1 j2 => by rw [ar 39 (by decide) (by decide)]⟩, ⟨ao _ _ (by decide) (Or.inr (by decide)), ao _ _ (by decide) (Or.inr (by decide))⟩, ar 107 (by decide) (by decide), fun j hj => ao _ _ (by decide) (Or.inl (by decide)), fun i i1 i2 => ar i (by omega) (by omega), fun i hi => ar i (by omega) (by omega)⟩, by rw [a6]; exact hcm, Or.inl ⟨0, pw_p m _, trivial, by rw [a6]; rfl, a9, fun code hc j j1 j2 => by omega, by rw [a7]; exact hwn, ?_, fun v hv _ hh => ?_⟩⟩
  · intro Jm Rm code n W X w hv hc hz hx
    rw [a7]
    exact (wk_end hl hz (Or.inl (by omega)) hx).2 hal
  · have v0 : v = 0 := by
      have : v < 1 := hv
      omega
    subst v0
    rw [a6] at hh
    have e : ((came + cmr m (7 - 7) 0 : Nat) : Int) = (came : Int) := rfl
    rw [e] at hh
    omega
end
section
-- the week: one place of one call of the search (own work)
theorem pw_dv (m : Nat) {r s : Nat} (h : r ≤ s) : pw m r ∣ pw m s := by
  obtain ⟨k, rfl⟩ : ∃ k : Nat, s = r + k := ⟨s - r, by omega⟩
  clear h
  induction k with
  | zero => exact Nat.dvd_refl _
  | succ k ih => exact Nat.dvd_trans ih (Nat.dvd_mul_left _ _)
/-- what is found behind a place is found here -/
theorem zTk.put {R : Nat → Nat → Nat} {l m d came q k : Nat} {D : Nat → Prop} {V Y C Z U : Nat → Nat → Int} (hd : d < 7) (hq : q ≤ m) (hT : zTk R l m d came (fun v => D v) V Y) (hDq : ∀ v : Nat, D v → q < v / pw m (6 - d)) (hk : k = came + if q < m then 1 else 0)
    (hcC : C 105 = Y 105 ∧ C 109 = Y 109 ∧ (∀ j : Nat, j < d → C 108 j = V 108 j) ∧ C 108 d = (q : Int)) (hU : U 105 = Z 105 ∧ U 109 = Z 109)
    (hup : ∀ (v : Nat) (o : Int), v < pw m (7 - d) → v / pw m (6 - d) = q → zOut R l m (d + 1) C (v % pw m (6 - d)) o → zOut R l m d V v o) (hZ : zTk R l m (d + 1) k (fun _ => True) C Z) : zTk R l m d came (fun v => D v ∨ v / pw m (6 - d) = q) V U := by
  have P := pw_p m (6 - d)
  have cmq : ∀ v : Nat, v / pw m (6 - d) = q → came + cmr m (7 - d) v = k + cmr m (7 - (d + 1)) (v % pw m (6 - d)) := fun v hv => by
    rw [show 7 - d = (6 - d) + 1 by omega, show 7 - (d + 1) = 6 - d by omega, hk]
    show came + ((if v / pw m (6 - d) < m then 1 else 0) + cmr m (6 - d) (v % pw m (6 - d))) = _
    rw [hv]
    omega
  have lt : ∀ v : Nat, v % pw m (6 - d) < pw m (7 - (d + 1)) := fun v => by
    rw [show 7 - (d + 1) = 6 - d by omega]
    exact Nat.mod_lt _ P
  obtain ⟨y1, y2⟩ := hT
  obtain ⟨z1, z2⟩ := hZ
  obtain ⟨c1, c2, c3, c4⟩ := hcC
  obtain ⟨u1, u2⟩ := hU
  rw [c1] at z1
  refine ⟨by rw [u1]; omega, ?_⟩
  rcases z2 with ⟨b, b1, -, b3, b4, b5, b6, b7, b8⟩ | ⟨n1, n2, n3, n4⟩
  · -- a row below is taken
    have eb : (q * pw m (6 - d) + b) / pw m (6 - d) = q := by
      rw [show 7 - (d + 1) = 6 - d by omega] at b1
      rw [Nat.mul_comm, Nat.mul_add_div P, Nat.div_eq_of_lt b1, Nat.add_zero]
    have em : (q * pw m (6 - d) + b) % pw m (6 - d) = b := by
      rw [show 7 - (d + 1) = 6 - d by omega] at b1
      rw [Nat.mul_comm, Nat.mul_add_mod, Nat.mod_eq_of_lt b1]
    have lb : q * pw m (6 - d) + b < pw m (7 - d) := by
      rw [show 7 - (d + 1) = 6 - d by omega] at b1
      rw [show 7 - d = (6 - d) + 1 by omega]
      show _ < (m + 1) * pw m (6 - d)
      have := Nat.mul_le_mul_right (pw m (6 - d)) (show q + 1 ≤ m + 1 by omega)
      rw [Nat.add_mul] at this
      omega
    refine Or.inl ⟨q * pw m (6 - d) + b, lb, Or.inr eb, ?_, fun j hj => ?_, fun code hcode j j1 j2 => ?_, by rw [u1]; exact b6, ?_, fun v hv hD hh => ?_⟩
    · rw [u1, b3, cmq _ eb, em]
    · rw [u2, b4 j (by omega)]; exact c3 j hj
    · have e1 : code % pw m (6 - d) = b := by
        rw [← pw_m, show (6 - d) + 1 = 7 - d by omega, hcode, em]
      rw [u2]
      by_cases e : j = d
      · rw [e, b4 d (by omega), c4]
        unfold dgt
        rw [← pw_d, show (6 - d) + 1 = 7 - d by omega, hcode, eb]
      · exact b5 code (by rw [show 7 - (d + 1) = 6 - d by omega]; exact e1) j (by omega) j2
    · rw [u1]
      exact hup _ _ lb eb (by rw [em]; exact b7)
    · rw [u1] at hh
      rcases hD with hD | hD
      · -- of a place before
        have vq := hDq v hD
        have vb : q * pw m (6 - d) + b < v := by
          have a := Nat.div_mul_le_self v (pw m (6 - d))
          have c := Nat.mul_le_mul_right (pw m (6 - d)) (show q + 1 ≤ v / pw m (6 - d) by omega)
          rw [Nat.add_mul] at c
          rw [show 7 - (d + 1) = 6 - d by omega] at b1
          omega
        have hl : ((came + cmr m (7 - d) v : Nat) : Int) < Z 105 6 := by omega
        rcases y2 with ⟨b', p1, p2, p3, p4, p5, p6, p7, p8⟩ | ⟨p1, p2, p3, p4⟩
        · exact p8 v hv hD (Or.inl (by omega))
        · exact p4 v hv hD (by omega)
      · rw [cmq v hD] at hh
        refine hup v (-1) hv hD (b8 _ (lt v) trivial ?_)
        rcases hh with hh | ⟨hh, hh2⟩
        · exact Or.inl hh
        · refine Or.inr ⟨hh, ?_⟩
          have a := Nat.div_add_mod v (pw m (6 - d))
          rw [hD, Nat.mul_comm] at a
          omega
  · -- none below
    rw [c1] at n1 n2
    rw [c2] at n3
    have dead : ∀ v : Nat, v < pw m (7 - d) → v / pw m (6 - d) = q → ((came + cmr m (7 - d) v : Nat) : Int) ≤ Z 105 6 → zOut R l m d V v (-1) := fun v hv hD hh => by
      rw [cmq v hD] at hh
      exact hup v (-1) hv hD (n4 _ (lt v) trivial hh)
    rcases y2 with ⟨b', p1, p2, p3, p4, p5, p6, p7, p8⟩ | ⟨p1, p2, p3, p4⟩
    · refine Or.inl ⟨b', p1, Or.inl p2, by rw [u1, n1]; exact p3, fun j hj => by rw [u2, n3]; exact p4 j hj, fun code hcode j j1 j2 => by rw [u2, n3]; exact p5 code hcode j j1 j2, by rw [u1, n2]; exact p6, by rw [u1, n2]; exact p7, fun v hv hD hh => ?_⟩
      rw [u1, n1] at hh
      rcases hD with hD | hD
      · exact p8 v hv hD hh
      · exact dead v hv hD (by rw [n1]; omega)
    · refine Or.inr ⟨by rw [u1, n1]; exact p1, by rw [u1, n2]; exact p2, by rw [u2, n3]; exact p3, fun v hv hD hh => ?_⟩
      rw [u1, n1] at hh
      rcases hD with hD | hD
      · exact p4 v hv hD hh
      · exact dead v hv hD (by rw [n1]; exact hh)
/-- a place that costs too many comings, or kills: nothing is found -/
theorem zTk.skip {R : Nat → Nat → Nat} {l m d came q : Nat} {D : Nat → Prop} {V Y U : Nat → Nat → Int} (hT : zTk R l m d came (fun v => D v) V Y) (hU : U 105 = Y 105 ∧ U 109 = Y 109) (hs : ∀ v : Nat, v < pw m (7 - d) → v / pw m (6 - d) = q → ((came + cmr m (7 - d) v : Nat) : Int) ≤ Y 105 6 → zOut R l m d V v (-1)) : zTk R l m d came (fun v => D v ∨ v / pw m (6 - d) = q) V U := by
  obtain ⟨y1, y2⟩ := hT
  obtain ⟨u1, u2⟩ := hU
  refine ⟨by rw [u1]; exact y1, ?_⟩
  rcases y2 with ⟨b', p1, p2, p3, p4, p5, p6, p7, p8⟩ | ⟨p1, p2, p3, p4⟩
  · refine Or.inl ⟨b', p1, Or.inl p2, by rw [u1]; exact p3, fun j hj => by rw [u2]; exact p4 j hj, fun code hcode j j1 j2 => by rw [u2]; exact p5 code hcode j j1 j2, by rw [u1]; exact p6, by rw [u1]; exact p7, fun v hv hD hh => ?_⟩
    rw [u1] at hh
    rcases hD with hD | hD
    · exact p8 v hv hD hh
    · exact hs v hv hD (by omega)
  · refine Or.inr ⟨by rw [u1]; exact p1, by rw [u1]; exact p2, by rw [u2]; exact p3, fun v hv hD hh => ?_⟩
    rw [u1] at hh
    rcases hD with hD | hD
    · exact p4 v hv hD hh
    · exact hs v hv hD hh
end
section
-- the week: one call of the search, all places (own work)
theorem goB_s {P : Nat → Nat → Prop} {G : Int → Int → (Nat → Nat → Int) → (Nat → Nat → Int) → (Nat → Nat → Nat) → (Nat → Nat → Int) → Prop} {R : Nat → Nat → Nat} {l m d : Nat} (hl : l < 4) (hm : m ≤ 3) (hd : d < 7) (hG : zGo R l m (d + 1) G) : zGo R l m d (goB P G) := by
  intro came V J U h h4 h5 hal hwn hday hcm hcd hwho
  unfold goB at h
  rw [h5] at h
  obtain ⟨-, h⟩ := h
  obtain ⟨c, ec, h⟩ := rdb_g h
  rw [Int.toNat_natCast] at ec
  have ec : c = 42 + 2 * l := by omega
  subst ec
  obtain ⟨c3, ec3, h⟩ := rdb_g h
  rw [Int.toNat_natCast] at ec3
  subst ec3
  obtain ⟨V4, k4, -, h⟩ := h
  obtain ⟨o4, s4, s4'⟩ := q_copyP1 (by omega) k4
  obtain ⟨z5, e5, h⟩ := rdb_g h
  rw [o4 105 (by omega) (by omega), h4] at e5
  subst e5
  obtain ⟨-, h⟩ := h
  obtain ⟨b, hb, h⟩ := lop2_g h
  have P0 := pw_p m (6 - d)
  have key : ∀ (f q1 : Nat) (Y : Nat → Nat → Int), q1 ≤ m + 1 → zFr d V Y → (∀ j : Nat, j < 8 → Y (110 + 2 * d) j = V (42 + 2 * l) j) → (∀ j : Nat, j < 7 → Y (110 + 2 * d + 1) j = V (42 + 2 * l + 1) j) → zTk R l m d came (fun v => q1 ≤ v / pw m (6 - d)) V Y → lop2 f b ((q1 : Int) - 1) Y U → zFr d V U ∧ zTk R l m d came (fun _ => True) V U := by
    intro f
    induction f with
    | zero => intro q1 Y _ _ _ _ _ h; exact False.elim h
    | succ f ih =>
      intro q1 Y hq1 hF hs hs' hT h
      rw [lop2_s hb] at h
      by_cases g0 : q1 = 0
      · rw [if_pos (by omega)] at h
        have h : U = Y := h
        have e : (fun v : Nat => q1 ≤ v / pw m (6 - d)) = fun _ => True := funext fun v => propext ⟨fun _ => trivial, fun _ => by rw [g0]; exact Nat.zero_le _⟩
        rw [e] at hT
        rw [h]
        exact ⟨hF, hT⟩
      obtain ⟨q, rfl⟩ : ∃ q : Nat, q1 = q + 1 := ⟨q1 - 1, by omega⟩
      rw [show (((q + 1 : Nat) : Int) - 1) = (q : Int) by omega, if_neg (by omega)] at h
      have hF0 := hF
      obtain ⟨f1, ⟨f2, f2'⟩, f3, f4, f5, f6⟩ := hF0
      have y39 : Y 39 3 = V 39 3 := f1.2.2 3 (by decide) (by decide)
      have yal : ¬ dedX (Y (42 + 2 * l)) := fun hh => hal ((SL.ded hl f1).mp hh)
      have eD : (fun v : Nat => q ≤ v / pw m (6 - d)) = fun v => q + 1 ≤ v / pw m (6 - d) ∨ v / pw m (6 - d) = q := funext fun v => propext ⟨fun _ => by omega, fun _ => by omega⟩
      obtain ⟨z272, e272, -, h⟩ := rdb_g h
      rw [f2, h4] at e272
      subst e272
      -- costs too much
      have cost : ∀ k : Nat, k = came + (if q < m then 1 else 0) → ¬ (k : Int) ≤ Y 105 6 → lop2 f b ((q : Int) - 1) Y U → zFr d V U ∧ zTk R l m d came (fun _ => True) V U := fun k hk hlt h => by
        refine ih q Y (by omega) hF hs hs' ?_ h
        rw [eD]
        refine zTk.skip hT ⟨rfl, rfl⟩ fun v hv hvq hh => ?_
        exfalso
        rw [show 7 - d = (6 - d) + 1 by omega] at hh
        have e : cmr m (6 - d + 1) v = (if v / pw m (6 - d) < m then 1 else 0) + cmr m (6 - d) (v % pw m (6 - d)) := rfl
        rw [e, hvq] at hh
        omega
      -- behind the step
      have tail : ∀ (w k : Nat) (g : Int) (A B : Nat → Nat → Int), w < 8 → k = came + (if q < m then 1 else 0) → (k : Int) ≤ Y 105 6 → Y (50 + w) 3 = g → (∀ i : Nat, i ≠ 69 → i ≠ 70 → i ≠ 71 → i ≠ 39 → i ≠ 42 + 2 * l → i ≠ 50 + w → A i = Y i) → (∀ j : Nat, j ≠ 5 → j ≠ 6 → A 39 j = Y 39 j) → (∀ j : Nat, j ≠ 3 → A (50 + w) j = Y (50 + w) j) →
          ((q < m → f_s_giveTo 39 (Y 107 q) (l : Int) Y J R A) ∧ (¬ q < m → A = Y)) → f_s_endDay 39 (l : Int) 0 A J R B →
          (rdb (B 39 3) fun z299 => rdb (wr (z299 + 1)) fun z300 => rdb (up2 B 39 3 z300) fun V301 => rdb (up2 V301 108 (d : Int).toNat (q : Int)) fun V302 => calR (f_s_isDeadP (42 + 2 * l) V302 J R) fun z303 => fct (0 ≤ z303 ∧ z303 ≤ 1) <| jnk (fun (V305 : Nat → Nat → Int) => rdb (V305 39 3) fun z306 => rdb (wr (z306 - 1)) fun z307 => rdb (up2 V305 39 3 z307) fun V308 => calUX (fun i k : Nat => (42 + 2 * l ≤ i ∧ i ≤ 42 + 2 * l + 1)) V308 (f_s_copyP (42 + 2 * l) (110 + 2 * d) V308 J R) fun V309 => rdb (up2 V309 (50 + w) 3 g) fun V310 => lop2 f b ((q : Int) - 1) V310) fun jf305 => (if ¬ z303 = 0 then jf305 V302 else calUX P V302 (G ((d : Int) + 1) (k : Int) V302 J R) fun V312 => jf305 V312)) U → zFr d V U ∧ zTk R l m d came (fun _ => True) V U := by
        intro w k g A B hw hk hkc hg a1 a2 a3 hA hB h
        obtain ⟨b1, b2⟩ := fr_end hB
        have bs : B 39 3 = V 39 3 := by rw [b1 39 (by decide) (by decide) (by decide) (by omega) (by omega), a2 3 (by decide) (by decide), y39]
        obtain ⟨t1, et1, h⟩ := rdb_g h
        obtain ⟨t2, et2, h⟩ := rdb_g h
        obtain ⟨C, eC, h⟩ := rdb_g h
        obtain ⟨C1, eC1, h⟩ := rdb_g h
        rw [Int.toNat_natCast] at eC1
        have hC : C = up2 B 39 3 (wr (B 39 3 + 1)) := by rw [← eC, ← et2, ← et1]
        have ew : wr (B 39 3 + 1) = V 39 3 + 1 := by rw [bs]; exact wr_id ⟨by omega, by omega⟩
        have co : ∀ i : Nat, i ≠ 39 → C i = B i := fun i hi => by rw [hC, up2_c _ _ hi]
        have c1o : ∀ i : Nat, i ≠ 108 → C1 i = C i := fun i hi => by rw [← eC1, up2_c _ _ hi]
        have c108 : ∀ j : Nat, j ≠ d → C1 108 j = Y 108 j := fun j hj => by rw [← eC1, up2_n _ _ (Or.inr hj), co 108 (by decide), b1 108 (by decide) (by decide) (by decide) (by omega) (by omega), a1 108 (by decide) (by decide) (by decide) (by decide) (by omega) (by omega)]
        have c108d : C1 108 d = (q : Int) := by rw [← eC1, up2_s]
        have far : ∀ i : Nat, 58 ≤ i → i ≠ 69 → i ≠ 70 → i ≠ 71 → i ≠ 108 → C1 i = Y i := fun i i1 i2 i3 i4 i5 => by rw [c1o i i5, co i (by omega), b1 i i2 i3 i4 (by omega) (by omega), a1 i i2 i3 i4 (by omega) (by omega) (by omega)]
        have low : ∀ i : Nat, i < 39 → C1 i = Y i := fun i hi => by rw [c1o i (by omega), co i (by omega), b1 i (by omega) (by omega) (by omega) (by omega) (by omega), a1 i (by omega) (by omega) (by omega) (by omega) (by omega) (by omega)]
        have c39 : C1 39 3 = V 39 3 + 1 := by rw [c1o 39 (by decide), hC, up2_s, ew]
        have c39o : ∀ j : Nat, j ≠ 3 → j ≠ 5 → j ≠ 6 → C1 39 j = Y 39 j := fun j j1 j2 j3 => by rw [c1o 39 (by decide), hC, up2_n _ _ (Or.inr j1), b1 39 (by decide) (by decide) (by decide) (by omega) (by omega), a2 j j2 j3]
        have c50 : ∀ j : Nat, j ≠ 3 → C1 (50 + w) j = Y (50 + w) j := fun j hj => by rw [c1o _ (by omega), co _ (by omega), b1 _ (by omega) (by omega) (by omega) (by omega) (by omega), a3 j hj]
        have cA : ∀ i : Nat, i ≤ 57 → i ≠ 39 → i ≠ 42 + 2 * l → i ≠ 43 + 2 * l → i ≠ 50 + w → C1 i = Y i := fun i i1 i2 i3 i4 i5 => by rw [c1o i (by omega), co i i2, b1 i (by omega) (by omega) (by omega) i3 i4, a1 i (by omega) (by omega) (by omega) i2 i3 i5]
        -- a row's way through here
        have hup : ∀ (v : Nat) (o : Int), v < pw m (7 - d) → v / pw m (6 - d) = q → zOut R l m (d + 1) C1 (v % pw m (6 - d)) o → zOut R l m d V v o := by
          intro v o hv hvq ho Jm Rm code n W X x hcv hcode hz hx
          have hdg : dgt m code d = q := by
            unfold dgt
            rw [← pw_d, show (6 - d) + 1 = 7 - d by omega, hcv, hvq]
          have hA107 : A 107 = Y 107 := a1 107 (by decide) (by decide) (by decide) (by decide) (by omega) (by omega)
          obtain ⟨n2, W2, k1, k2⟩ := wk_step hl hm hd hcode hdg (hz.fr hF) yal hA hA107 hB hC hx
          have k3 : zRel R l m (d + 1) C1 W2 := by
            obtain ⟨r1, r2, r3, r4, r5⟩ := k1
            refine ⟨r1.cg2 (fun i _ i2 => c1o i (by omega)) (fun _ _ => rfl), r2.cg (fun i i1 i2 i3 => c1o i (by omega)) (fun _ _ _ => rfl), r3, r4, ?_⟩
            rw [c1o 107 (by decide)]
            exact r5
          refine ho Jm Rm code n2 W2 X x ?_ hcode k3 k2
          rw [show 7 - (d + 1) = 6 - d by omega, ← pw_m, show (6 - d) + 1 = 7 - d by omega, hcv]
        obtain ⟨zd, hzd, -, h⟩ := h
        have hzd := q_sDead hzd
        have h := jnk_d h
        -- undone
        have undo : ∀ Z : Nat → Nat → Int, zFr (d + 1) C1 Z → (∀ U2 : Nat → Nat → Int, U2 105 = Z 105 → U2 109 = Z 109 → zTk R l m d came (fun v => q ≤ v / pw m (6 - d)) V U2) →
            (rdb (Z 39 3) fun z306 => rdb (wr (z306 - 1)) fun z307 => rdb (up2 Z 39 3 z307) fun V308 => calUX (fun i k : Nat => (42 + 2 * l ≤ i ∧ i ≤ 42 + 2 * l + 1)) V308 (f_s_copyP (42 + 2 * l) (110 + 2 * d) V308 J R) fun V309 => rdb (up2 V309 (50 + w) 3 g) fun V310 => lop2 f b ((q : Int) - 1) V310) U → zFr d V U ∧ zTk R l m d came (fun _ => True) V U := by
          intro Z hZ hTZ h
          obtain ⟨z1, ⟨z2, z2'⟩, z3, z4, z5, z6⟩ := hZ
          have zs : Z 39 3 = V 39 3 + 1 := by rw [z1.2.2 3 (by decide) (by decide), c39]
          obtain ⟨u1, eu1, h⟩ := rdb_g h
          obtain ⟨u2, eu2, h⟩ := rdb_g h
          obtain ⟨Z1, eZ1, h⟩ := rdb_g h
          obtain ⟨Z2, k2, -, h⟩ := h
          obtain ⟨p1, p2, p3⟩ := q_copyP1 (by omega) k2
          obtain ⟨Y2, eY2, h⟩ := rdb_g h
          have u2e : u2 = V 39 3 := by
            rw [← eu2, ← eu1, zs, show V 39 3 + 1 - 1 = V 39 3 by omega]
            exact wr_id ⟨by omega, by omega⟩
          have z1o : ∀ i : Nat, i ≠ 39 → Z1 i = Z i := fun i hi => by rw [← eZ1, up2_c _ _ hi]
          have yo : ∀ i : Nat, 58 ≤ i → Y2 i = Z i := fun i hi => by rw [← eY2, up2_c _ _ (by omega), p1 i (by omega) (by omega), z1o i (by omega)]
          have yl : ∀ i : Nat, i < 39 → Y2 i = Z i := fun i hi => by rw [← eY2, up2_c _ _ (by omega), p1 i (by omega) (by omega), z1o i (by omega)]
          have lv : ∀ j : Nat, j < 8 → Z (110 + 2 * d) j = V (42 + 2 * l) j := fun j hj => by rw [z5 _ (by omega) (by omega), far _ (by omega) (by omega) (by omega) (by omega) (by omega)]; exact hs j hj
          have lv' : ∀ j : Nat, j < 7 → Z (110 + 2 * d + 1) j = V (42 + 2 * l + 1) j := fun j hj => by rw [z5 _ (by omega) (by omega), far _ (by omega) (by omega) (by omega) (by omega) (by omega)]; exact hs' j hj
          have yc := (f1.1 l hl).1
          have yk := (f1.1 l hl).2
          rw [show 39 + 3 + 2 * l = 42 + 2 * l by omega] at yc yk
          have SLU : SL 39 39 Y2 Y := fr_undo (V := Y) (A := C1) (B := Z) (C := Z1) (D := Z2) (s := V 39 3) (g := g) (c3 := 110) hl hw (by decide) hg y39 cA c39o c50 z1 z1o (fun j hj => by rw [← eZ1, up2_n _ _ (Or.inr hj)]) (by rw [← eZ1, up2_s, u2e]) p1 (fun j hj => by rw [p2 j hj, z1o _ (by omega), lv j hj, yc j hj]) (fun j hj => by rw [p3 j hj, z1o _ (by omega), lv' j hj, yk j hj]) eY2.symm
          have FY : zFr d V Y2 := by
            refine ⟨f1.tr SLU, ⟨?_, ?_⟩, ?_, fun j hj => ?_, fun i i1 i2 => ?_, fun i hi => ?_⟩
            · rw [yo 105 (by decide), z2, far 105 (by decide) (by decide) (by decide) (by decide) (by decide)]; exact f2
            · rw [yo 105 (by decide), z2', far 105 (by decide) (by decide) (by decide) (by decide) (by decide)]; exact f2'
            · rw [yo 107 (by decide), z3, far 107 (by decide) (by decide) (by decide) (by decide) (by decide)]; exact f3
            · rw [yo 108 (by decide), z4 j (by omega), c108 j (by omega)]; exact f4 j hj
            · rw [yo i (by omega), z5 i i1 (by omega), far i (by omega) (by omega) (by omega) (by omega) (by omega)]; exact f5 i i1 i2
            · rcases (show i < 39 ∨ 58 ≤ i by omega) with hi2 | hi2
              · rw [yl i hi2, z6 i (Or.inl hi2), low i hi2]; exact f6 i hi
              · rw [yo i hi2, z6 i hi, far i hi2 (by omega) (by omega) (by omega) (by omega)]; exact f6 i hi
          refine ih q Y2 (by omega) FY (fun j hj => by rw [yo _ (by omega)]; exact lv j hj) (fun j hj => by rw [yo _ (by omega)]; exact lv' j hj) (hTZ Y2 (yo 105 (by decide)) (yo 109 (by decide))) h
        have C105 : C1 105 = Y 105 := far 105 (by decide) (by decide) (by decide) (by decide) (by decide)
        have C109 : C1 109 = Y 109 := far 109 (by decide) (by decide) (by decide) (by decide) (by decide)
        by_cases gd : zd = 0
        · rw [if_neg (fun hh => hh gd)] at h
          obtain ⟨Z, kZ, -, h⟩ := h
          have nd : ¬ dedX (C1 (42 + 2 * l)) := hzd.off gd
          rw [show ((d : Int) + 1) = ((d + 1 : Nat) : Int) by omega] at kZ
          obtain ⟨FZ, TZ⟩ := hG k C1 J Z kZ (by rw [C105, f2]; exact h4) (by rw [C105, f2']; exact h5) nd (by rw [c1o _ (by omega), co _ (by omega)]; exact b2) (by rw [c39]; omega) (by rw [C105]; exact hkc) (by rw [hk]; split <;> omega) (by rw [far 107 (by decide) (by decide) (by decide) (by decide) (by decide), f3]; exact hwho)
          refine undo Z FZ (fun U2 e1 e2 => ?_) h
          rw [eD]
          exact zTk.put hd (by omega) hT (fun v hv => by omega) hk ⟨C105, C109, fun j hj => by rw [c108 j (by omega)]; exact f4 j hj, c108d⟩ ⟨e1, e2⟩ hup TZ
        · rw [if_pos gd] at h
          have dd : dedX (C1 (42 + 2 * l)) := hzd.on gd
          refine undo C1 (zFr.rf _ _) (fun U2 e1 e2 => ?_) h
          rw [eD]
          refine zTk.skip hT ⟨by rw [e1, C105], by rw [e2, C109]⟩ (fun v hv hvq _ => hup v (-1) hv hvq ?_)
          intro Jm Rm code n W X x _ _ hz hx
          exact (wk_end hl hz (Or.inr dd) hx).1 dd
      by_cases gq : (m : Int) ≤ q
      · -- nobody
        rw [if_pos gq] at h
        obtain ⟨z274, e274, h⟩ := rdb_g h
        have h := jnk_d h
        by_cases gc : (came : Int) ≤ z274
        · rw [if_pos gc] at h
          obtain ⟨c5, ec5, h⟩ := rdb_g h
          have ec5 : c5 = 50 + 0 := by omega
          subst ec5
          obtain ⟨g, eg, h⟩ := rdb_g h
          obtain ⟨l2, el2, -, h⟩ := rdb_g h
          rw [f2', h5] at el2
          subst el2
          obtain ⟨B, hB, -, h⟩ := h
          exact tail 0 came g Y B (by decide) (by rw [if_neg (by omega)]; rfl) (by rw [e274]; exact gc) eg (fun _ _ _ _ _ _ _ => rfl) (fun _ _ _ => rfl) (fun _ _ => rfl) ⟨fun hh => by omega, fun _ => rfl⟩ hB h
        · rw [if_neg gc] at h
          exact cost came (by rw [if_neg (by omega)]; rfl) (by rw [e274]; exact gc) h
      · -- one comes
        rw [if_neg gq] at h
        have gq2 : q < m := by omega
        have yb : Y 105 6 ≤ V 105 6 := hT.1
        obtain ⟨z313, e313, h⟩ := rdb_g h
        obtain ⟨z314, e314, h⟩ := rdb_g h
        have h := jnk_d h
        have cw := hwho q gq2
        rw [show (came : Int) + 1 = ((came + 1 : Nat) : Int) by omega, wr_id (z := ((came + 1 : Nat) : Int)) ⟨by omega, by omega⟩] at e313
        subst e313
        by_cases gc : ((came + 1 : Nat) : Int) ≤ z314
        · rw [if_pos gc] at h
          obtain ⟨w, ew, -, h⟩ := rdb_g h
          rw [Int.toNat_natCast, f3] at ew
          obtain ⟨wn, hwn2⟩ : ∃ wn : Nat, w = (wn : Int) := ⟨w.toNat, by omega⟩
          subst hwn2
          obtain ⟨c9, ec9, h⟩ := rdb_g h
          rw [Int.toNat_natCast] at ec9
          have ec9 : c9 = 50 + wn := by omega
          subst ec9
          obtain ⟨g, eg, h⟩ := rdb_g h
          obtain ⟨l2, el2, -, h⟩ := rdb_g h
          rw [f2', h5] at el2
          subst el2
          obtain ⟨A, hA, -, h⟩ := h
          have wn8 : wn < 8 := by omega
          obtain ⟨a1, a2, a3⟩ := fr_give wn8 hl hA
          obtain ⟨l3, el3, -, h⟩ := rdb_g h
          rw [a1 105 (by decide) (by decide) (by decide) (by decide) (by omega) (by omega), f2', h5] at el3
          subst el3
          obtain ⟨B, hB, -, h⟩ := h
          exact tail wn (came + 1) g A B wn8 (by rw [if_pos gq2]) (by rw [e314]; exact gc) eg a1 a2 a3 ⟨fun _ => by rw [f3, ew]; exact hA, fun hh => absurd gq2 hh⟩ hB h
        · rw [if_neg gc] at h
          exact cost (came + 1) (by rw [if_pos gq2]) (by rw [e314]; exact gc) h
  refine key 6 (m + 1) V4 (Nat.le_refl _) ?_ s4 s4' ?_ (by rw [show (((m + 1 : Nat) : Int) - 1) = (m : Int) by omega]; exact h)
  · exact ⟨⟨fun q hq => ⟨fun j hj => by rw [o4 _ (by omega) (by omega)], fun j hj => by rw [o4 _ (by omega) (by omega)]⟩, fun p hp j hj => by rw [o4 _ (by omega) (by omega)], fun j j1 j2 => by rw [o4 _ (by omega) (by omega)]⟩, ⟨by rw [o4 _ (by omega) (by omega)], by rw [o4 _ (by omega) (by omega)]⟩, o4 _ (by omega) (by omega), fun j hj => by rw [o4 _ (by omega) (by omega)], fun i i1 i2 => o4 _ (by omega) (by omega), fun i hi => o4 _ (by omega) (by omega)⟩
  · have e105 : V4 105 = V 105 := o4 _ (by omega) (by omega)
    refine ⟨by rw [e105]; exact Int.le_refl _, Or.inr ⟨by rw [e105], by rw [e105], o4 _ (by omega) (by omega), fun v hv hD _ => ?_⟩⟩
    exfalso
    rw [show 7 - d = (6 - d) + 1 by omega] at hv
    have hv : v < (m + 1) * pw m (6 - d) := hv
    have := Nat.div_lt_of_lt_mul (by rw [Nat.mul_comm] at hv; exact hv)
    omega
end
section
-- the week: the answer (own work)
theorem q_fillLow7 {b m : Nat} {V J U : Nat → Nat → Int} {R : Nat → Nat → Nat} {N : Nat → Int} (hb : b ≤ 39) (hR : ∀ p : Nat, p < 8 → V (b + 11 + p) 0 = bt (N 78) (p : Int)) (hm : m ≤ 3) (h : f_s_fillLowest b (m : Int) 107 V J R U) : (∀ i : Nat, i ≠ 107 → U i = V i) ∧ ∀ j : Nat, j < m → j < (lwl N 8).length → U 107 j = zLw N j := by
  unfold f_s_fillLowest at h
  obtain ⟨bb, hbb, h⟩ := lop3_g h
  have key : ∀ (f p n : Nat) (Y : Nat → Nat → Int), p ≤ 8 → n = min m (lwl N p).length → (∀ i : Nat, i ≠ 107 → Y i = V i) → (∀ j : Nat, j < n → Y 107 j = zLw N j) → lop3 f bb (p : Int) (n : Int) Y U → (∀ i : Nat, i ≠ 107 → U i = V i) ∧ ∀ j : Nat, j < m → j < (lwl N 8).length → U 107 j = zLw N j := by
    intro f
    induction f with
    | zero => intro p n Y _ _ _ _ h; exact False.elim h
    | succ f ih =>
      intro p n Y hp hn hY hj h
      rw [lop3_s hbb] at h
      by_cases g : (8 : Int) ≤ p
      · rw [if_pos g] at h
        have h : U = Y := h
        subst h
        have ep : p = 8 := by omega
        subst ep
        exact ⟨hY, fun j h1 h2 => hj j (by omega)⟩
      · rw [if_neg g] at h
        have hp8 : p < 8 := by omega
        obtain ⟨c, ec, h⟩ := rdb_g h
        rw [Int.toNat_natCast, Nat.one_mul] at ec
        subst ec
        obtain ⟨z, ez, h⟩ := rdb_g h
        rw [hY _ (by omega), hR p hp8] at ez
        obtain ⟨-, h⟩ := h
        have ls := lwl_s (N := N) (p := p)
        have br := bt_r (N 78) (p : Int)
        have np : ((p : Int) + 1) = ((p + 1 : Nat) : Int) := by omega
        simp only [jnk] at h
        by_cases g0 : z = 0
        · rw [if_pos g0, np] at h
          exact ih (p + 1) n Y (by omega) (by omega) hY hj h
        rw [if_neg g0] at h
        by_cases g1 : (m : Int) ≤ n
        · rw [if_pos g1, np] at h
          exact ih (p + 1) n Y (by omega) (by omega) hY hj h
        rw [if_neg g1, if_neg (by omega)] at h
        obtain ⟨Y2, e2, h⟩ := rdb_g h
        rw [Int.toNat_natCast] at e2
        rw [np, show ((n : Int) + 1) = ((n + 1 : Nat) : Int) by omega] at h
        have nl : n = (lwl N p).length := by omega
        refine ih (p + 1) (n + 1) Y2 (by omega) (by omega) (fun i hi => by rw [← e2, up2_c _ _ hi]; exact hY i hi) (fun j hjn => ?_) h
        rw [← e2, up2_row]
        by_cases e : j = n
        · subst e
          rw [up1_s, nl, zLw_n hp8 (by omega)]
        · rw [up1_n _ _ e]; exact hj j (by omega)
  exact key 10 0 0 V (by decide) (by show 0 = min m 0; omega) (fun _ _ => rfl) (fun j hj => by omega) h
theorem zLw_t {N : Nat → Int} {j : Nat} (hj : j < (lwl N 8).length) : bt (N 78) (zLw N j) = 1 := by
  unfold zLw
  rw [List.getD_eq_getElem?_getD, List.getElem?_eq_getElem hj]
  exact (lwl_m 8 _ (List.getElem_mem hj)).2.2
theorem go_all {R : Nat → Nat → Nat} {l m : Nat} (hl : l < 4) (hm : m ≤ 3) : zGo R l m 0 f_s_go0 := by
  rw [go0_e]
  refine goB_s hl hm (by decide) ?_
  rw [go1_e]
  refine goB_s hl hm (by decide) ?_
  rw [go2_e]
  refine goB_s hl hm (by decide) ?_
  rw [go3_e]
  refine goB_s hl hm (by decide) ?_
  rw [go4_e]
  refine goB_s hl hm (by decide) ?_
  rw [go5_e]
  refine goB_s hl hm (by decide) ?_
  rw [go6_e]
  exact goB_s hl hm (by decide) (go7_s hl)
/-- what is kept by a row's trial in the reference -/
def zKp (W X : Nat → Nat → Int) : Prop := (∀ k : Nat, k < 81 → X 1 k = W 1 k) ∧ X 20 = W 20 ∧ ∀ i : Nat, 11 ≤ i → i ≤ 16 → X i = W i
theorem zRel.rel2 {R : Nat → Nat → Nat} {l m : Nat} {V W X : Nat → Nat → Int} (h : zRel R l m 0 V W) (k : zKp W X) : zRel R l m 0 V X := by
  obtain ⟨r1, r2, r3, r4, r5⟩ := h
  obtain ⟨k1, k2, k3⟩ := k
  refine ⟨r1.cg2 (fun _ _ _ => rfl) k1, r2.cg (fun _ _ _ _ => rfl) k3, by rw [k1 76 (by decide)]; exact r3, by rw [k1 79 (by decide)]; exact r4, ?_⟩
  rw [k2, k1 78 (by decide)]
  exact r5
theorem wk_try {R Rm : Nat → Nat → Nat} {l m code : Nat} {o w : Int} {V W S Jm X : Nat → Nat → Int} (hcode : code < pw m 7) (hm : m ≤ 3) (hz : zRel R l m 0 V W) (hk : zKp W S) (ho : zOut R l m 0 V code o) (h : f_m_wetBehind (l : Int) (m : Int) (code : Int) S Jm Rm (w, X)) : w = o := by
  have b := pw_b m hm 7 (Nat.le_refl 7)
  unfold f_m_wetBehind at h
  obtain ⟨V1, e1, h⟩ := rdb_g h
  have k1 : zKp W V1 := by
    obtain ⟨k1, k2, k3⟩ := hk
    exact ⟨fun k hk => by rw [← e1, cpN_n (by decide)]; exact k1 k hk, by rw [← e1, cpN_n (by decide)]; exact k2, fun i i1 i2 => by rw [← e1, cpN_n (by omega)]; exact k3 i i1 i2⟩
  exact ho Jm Rm code 9 V1 X w (Nat.mod_eq_of_lt hcode) (by omega) (hz.rel2 k1) h
/-- the reference's search finds the same row -/
theorem wk_search {ρ : Type} {R Rm : Nat → Nat → Nat} {l m : Nat} {V Y W Jm : Nat → Nat → Int} {F : Int → (Nat → Nat → Int) → ρ → Prop} {r : ρ} (hm : m ≤ 3) (hz : zRel R l m 0 V W) (hT : zTk R l m 0 0 (fun _ => True) V Y) (h8 : V 105 6 = 8)
    {b : (Int → Int → (Nat → Nat → Int) → ρ → Prop) → Int → Int → (Nat → Nat → Int) → ρ → Prop}
    (hb : b = fun rc827 (z825 : Int) (z826 : Int) (V827 : Nat → Nat → Int) => (if ((pw m 7 : Nat) : Int) ≤ z825 then F z826 V827 else jnk (fun (z896 : Int) (V897 : Nat → Nat → Int) => rc827 (z825 + 1) z896 V897) fun jf897 => (if z826 = (-1) then calVM 16925072155069251105849344 V827 (f_m_wetBehind (l : Int) (m : Int) z825 V827 Jm Rm) fun z899 V899 => (if z899 = (-1) then jf897 z826 V899 else jf897 z825 V899) else calR (f_m_comings z825 (m : Int)) fun z901 => calR (f_m_comings z826 (m : Int)) fun z902 => (if z901 < z902 then calVM 16925072155069251105849344 V827 (f_m_wetBehind (l : Int) (m : Int) z825 V827 Jm Rm) fun z904 V904 => (if z904 = (-1) then jf897 z826 V904 else jf897 z825 V904) else jf897 z826 V827)))) :
    ∀ n : Nat, lop3 n b 0 (-1) W r → ∃ (be : Int) (W9 : Nat → Nat → Int), F be W9 r ∧ zKp W W9 ∧ ((Y 105 6 = 8 ∧ be = -1) ∨ ∃ c : Nat, be = (c : Int) ∧ c < pw m 7 ∧ Y 105 6 = ((cmr m 7 c : Nat) : Int) ∧ (∀ j : Nat, j < 7 → Y 109 j = (dgt m c j : Int)) ∧ 0 ≤ Y 105 7 ∧ zOut R l m 0 V c (Y 105 7)) := by
  have pb := pw_b m hm 7 (Nat.le_refl 7)
  obtain ⟨-, t⟩ := hT
  have keep : ∀ (S X : Nat → Nat → Int) (c : Nat) (w : Int), zKp W S → f_m_wetBehind (l : Int) (m : Int) (c : Int) S Jm Rm (w, X) → FBm 16925072155069251105849344 S X → zKp W X := fun S X c w hk hw hF => by
    obtain ⟨k1, k2, k3⟩ := hk
    refine ⟨fun k hk => by rw [k_wetBehind hw k hk]; exact k1 k hk, by rw [hF.rw 20 (by decide) (by decide)]; exact k2, fun i i1 i2 => ?_⟩
    rcases (show i = 11 ∨ i = 12 ∨ i = 13 ∨ i = 14 ∨ i = 15 ∨ i = 16 by omega) with rfl | rfl | rfl | rfl | rfl | rfl <;> (rw [hF.rw _ (by decide) (by decide)]; exact k3 _ i1 i2)
  rcases t with ⟨c, c1, -, c3, -, c5, c6, c7, c8⟩ | ⟨n1, -, -, n4⟩
  · -- a row c is the best
    have c1 : c < pw m 7 := c1
    have c3 : Y 105 6 = ((0 + cmr m 7 c : Nat) : Int) := c3
    have c8 : ∀ v : Nat, v < pw m 7 → True → (((0 + cmr m 7 v : Nat) : Int) < Y 105 6 ∨ (((0 + cmr m 7 v : Nat) : Int) = Y 105 6 ∧ v < c)) → zOut R l m 0 V v (-1) := c8
    rw [Nat.zero_add] at c3
    have key : ∀ (n i : Nat) (be : Int) (S : Nat → Nat → Int), i ≤ pw m 7 → zKp W S → (if c < i then be = (c : Int) else be = -1 ∨ ∃ e : Nat, be = (e : Int) ∧ e < pw m 7 ∧ cmr m 7 c < cmr m 7 e) → lop3 n b (i : Int) be S r → ∃ (be : Int) (W9 : Nat → Nat → Int), F be W9 r ∧ zKp W W9 ∧ be = (c : Int) := by
      intro n
      induction n with
      | zero => intro i be S _ _ _ h; exact False.elim h
      | succ n ih =>
        intro i be S hi hS hbe h
        rw [lop3_s hb] at h
        by_cases g : ((pw m 7 : Nat) : Int) ≤ i
        · rw [if_pos g] at h
          rw [if_pos (by omega)] at hbe
          exact ⟨be, S, h, hS, hbe⟩
        rw [if_neg g] at h
        have hi7 : i < pw m 7 := by omega
        have nx : ((i : Int) + 1) = ((i + 1 : Nat) : Int) := by omega
        simp only [jnk] at h
        rw [nx] at h
        -- the row i is tried
        have try' : (be = -1 ∨ ∃ e : Nat, be = (e : Int) ∧ e < pw m 7 ∧ cmr m 7 i < cmr m 7 e) → (calVM 16925072155069251105849344 S (f_m_wetBehind (l : Int) (m : Int) (i : Int) S Jm Rm) fun z899 V899 => (if z899 = (-1) then lop3 n b ((i + 1 : Nat) : Int) be V899 else lop3 n b ((i + 1 : Nat) : Int) (i : Int) V899)) r → ∃ (be : Int) (W9 : Nat → Nat → Int), F be W9 r ∧ zKp W W9 ∧ be = (c : Int) := fun hcond h => by
          obtain ⟨w, X, hw, hF, h⟩ := h
          have hX := keep S X i w hS hw hF
          by_cases eic : i = c
          · have ew : w = Y 105 7 := wk_try (by omega) hm hz hS (by rw [eic]; exact c7) hw
            rw [if_neg (by omega)] at h
            exact ih (i + 1) (i : Int) X (by omega) hX (by rw [if_pos (by omega), eic]) h
          · have late : (cmr m 7 i < cmr m 7 c ∨ (cmr m 7 i = cmr m 7 c ∧ i < c)) → w = -1 := fun hh => wk_try hi7 hm hz hS (c8 i hi7 trivial (by rw [Nat.zero_add, c3]; omega)) hw
            by_cases gw : w = -1
            · rw [if_pos gw] at h
              refine ih (i + 1) be X (by omega) hX ?_ h
              by_cases lt : c < i
              · rw [if_pos lt] at hbe
                rw [if_pos (by omega)]; exact hbe
              · rw [if_neg lt] at hbe
                rw [if_neg (by omega)]; exact hbe
            · rw [if_neg gw] at h
              have nl : ¬ (cmr m 7 i < cmr m 7 c ∨ (cmr m 7 i = cmr m 7 c ∧ i < c)) := fun hh => gw (late hh)
              by_cases lt : c < i
              · -- behind c no better one is tried
                rw [if_pos lt] at hbe
                exfalso
                rcases hcond with hc | ⟨e, he, -, he2⟩
                · omega
                · have : e = c := by omega
                  subst this
                  exact nl (Or.inl he2)
              · refine ih (i + 1) (i : Int) X (by omega) hX ?_ h
                rw [if_neg (by omega)]
                exact Or.inr ⟨i, rfl, hi7, by omega⟩
        by_cases gb : be = -1
        · rw [if_pos gb] at h
          exact try' (Or.inl gb) h
        · rw [if_neg gb] at h
          obtain ⟨e, he, he7⟩ : ∃ e : Nat, be = (e : Int) ∧ e < pw m 7 := by
            by_cases lt : c < i
            · rw [if_pos lt] at hbe; exact ⟨c, hbe, c1⟩
            · rw [if_neg lt] at hbe
              rcases hbe with hh | ⟨e, h1, h2, -⟩
              · exact absurd hh gb
              · exact ⟨e, h1, h2⟩
          obtain ⟨x1, k1, h⟩ := h
          obtain ⟨x2, k2, h⟩ := h
          rw [he] at k2
          have k1 := q_comings hm (by omega) k1
          have k2 := q_comings hm (by omega) k2
          rw [Nat.mod_eq_of_lt hi7] at k1
          rw [Nat.mod_eq_of_lt he7] at k2
          by_cases gx : x1 < x2
          · rw [if_pos gx] at h
            exact try' (Or.inr ⟨e, he, he7, by omega⟩) h
          · rw [if_neg gx] at h
            refine ih (i + 1) be S (by omega) hS ?_ h
            by_cases eic : i = c
            · exfalso
              rw [if_neg (by omega)] at hbe
              rcases hbe with hh | ⟨e', h1, h2, h3⟩
              · exact gb hh
              · have : e' = e := by omega
                subst this
                rw [← eic] at h3
                omega
            · by_cases lt : c < i
              · rw [if_pos lt] at hbe
                rw [if_pos (by omega)]; exact hbe
              · rw [if_neg lt] at hbe
                rw [if_neg (by omega)]; exact hbe
    intro n h
    obtain ⟨be, W9, w1, w2, w3⟩ := key n 0 (-1) W (Nat.zero_le _) ⟨fun _ _ => rfl, rfl, fun _ _ _ => rfl⟩ (by rw [if_neg (by omega)]; exact Or.inl rfl) h
    exact ⟨be, W9, w1, w2, Or.inr ⟨c, w3, c1, c3, fun j hj => c5 c (Nat.mod_eq_of_lt c1) j (Nat.zero_le _) hj, c6, c7⟩⟩
  · -- none lives
    rw [h8] at n1
    have dead : ∀ v : Nat, v < pw m 7 → zOut R l m 0 V v (-1) := fun v hv => n4 v hv trivial (by
      rw [n1, Nat.zero_add]
      have := cmr_b m 7 v
      show ((cmr m 7 v : Nat) : Int) ≤ 8
      omega)
    have key : ∀ (n i : Nat) (S : Nat → Nat → Int), i ≤ pw m 7 → zKp W S → lop3 n b (i : Int) (-1) S r → ∃ W9 : Nat → Nat → Int, F (-1) W9 r ∧ zKp W W9 := by
      intro n
      induction n with
      | zero => intro i S _ _ h; exact False.elim h
      | succ n ih =>
        intro i S hi hS h
        rw [lop3_s hb] at h
        by_cases g : ((pw m 7 : Nat) : Int) ≤ i
        · rw [if_pos g] at h
          exact ⟨S, h, hS⟩
        rw [if_neg g] at h
        simp only [jnk] at h
        rw [if_pos trivial, show ((i : Int) + 1) = ((i + 1 : Nat) : Int) by omega] at h
        obtain ⟨w, X, hw, hF, h⟩ := h
        have ew := wk_try (by omega) hm hz hS (dead i (by omega)) hw
        rw [if_pos ew] at h
        exact ih (i + 1) X (by omega) (keep S X i w hS hw hF) h
    intro n h
    obtain ⟨W9, w1, w2⟩ := key n 0 W (Nat.zero_le _) ⟨fun _ _ => rfl, rfl, fun _ _ _ => rfl⟩ h
    exact ⟨-1, W9, w1, w2, Or.inl ⟨n1, rfl⟩⟩
end
section
-- the week: both answers (own work)
/-- the rows are counted, then searched -/
theorem wk_rows {ρ : Type} {Rm : Nat → Nat → Nat} {l m : Nat} {S Jm : Nat → Nat → Int} {F : Int → (Nat → Nat → Int) → ρ → Prop} {r : ρ} (hm : m ≤ 3) (h : lop2 9 (fun rc556 (z554 : Int) (z555 : Int) => (if 7 ≤ z554 then lop3 (2147483649) (fun rc827 (z825 : Int) (z826 : Int) (V827 : Nat → Nat → Int) => (if z555 ≤ z825 then F z826 V827 else jnk (fun (z896 : Int) (V897 : Nat → Nat → Int) => rc827 (z825 + 1) z896 V897) fun jf897 => (if z826 = (-1) then calVM 16925072155069251105849344 V827 (f_m_wetBehind (l : Int) (m : Int) z825 V827 Jm Rm) fun z899 V899 => (if z899 = (-1) then jf897 z826 V899 else jf897 z825 V899) else calR (f_m_comings z825 (m : Int)) fun z901 => calR (f_m_comings z826 (m : Int)) fun z902 => (if z901 < z902 then calVM 16925072155069251105849344 V827 (f_m_wetBehind (l : Int) (m : Int) z825 V827 Jm Rm) fun z904 V904 => (if z904 = (-1) then jf897 z826 V904 else jf897 z825 V904) else jf897 z826 V827)))) 0 ((-1)) S else rdb (wr (z555 * ((m : Int) + 1))) fun z906 => rc556 (z554 + 1) z906)) 0 1 r) : lop3 (2147483649) (fun rc827 (z825 : Int) (z826 : Int) (V827 : Nat → Nat → Int) => (if ((pw m 7 : Nat) : Int) ≤ z825 then F z826 V827 else jnk (fun (z896 : Int) (V897 : Nat → Nat → Int) => rc827 (z825 + 1) z896 V897) fun jf897 => (if z826 = (-1) then calVM 16925072155069251105849344 V827 (f_m_wetBehind (l : Int) (m : Int) z825 V827 Jm Rm) fun z899 V899 => (if z899 = (-1) then jf897 z826 V899 else jf897 z825 V899) else calR (f_m_comings z825 (m : Int)) fun z901 => calR (f_m_comings z826 (m : Int)) fun z902 => (if z901 < z902 then calVM 16925072155069251105849344 V827 (f_m_wetBehind (l : Int) (m : Int) z825 V827 Jm Rm) fun z904 V904 => (if z904 = (-1) then jf897 z826 V904 else jf897 z825 V904) else jf897 z826 V827)))) 0 ((-1)) S r := by
  obtain ⟨b, hb, h⟩ := lop2_g h
  have key : ∀ (n k : Nat), k ≤ 7 → lop2 n b (k : Int) ((pw m k : Nat) : Int) r → lop3 (2147483649) (fun rc827 (z825 : Int) (z826 : Int) (V827 : Nat → Nat → Int) => (if ((pw m 7 : Nat) : Int) ≤ z825 then F z826 V827 else jnk (fun (z896 : Int) (V897 : Nat → Nat → Int) => rc827 (z825 + 1) z896 V897) fun jf897 => (if z826 = (-1) then calVM 16925072155069251105849344 V827 (f_m_wetBehind (l : Int) (m : Int) z825 V827 Jm Rm) fun z899 V899 => (if z899 = (-1) then jf897 z826 V899 else jf897 z825 V899) else calR (f_m_comings z825 (m : Int)) fun z901 => calR (f_m_comings z826 (m : Int)) fun z902 => (if z901 < z902 then calVM 16925072155069251105849344 V827 (f_m_wetBehind (l : Int) (m : Int) z825 V827 Jm Rm) fun z904 V904 => (if z904 = (-1) then jf897 z826 V904 else jf897 z825 V904) else jf897 z826 V827)))) 0 ((-1)) S r := by
    intro n
    induction n with
    | zero => intro k _ h; exact False.elim h
    | succ n ih =>
      intro k hk h
      rw [lop2_s hb] at h
      by_cases g : (7 : Int) ≤ k
      · rw [if_pos g] at h
        have e : k = 7 := by omega
        subst e
        exact h
      · rw [if_neg g] at h
        have b1 := pw_b m hm (k + 1) (by omega)
        obtain ⟨t, et, h⟩ := rdb_g h
        have e : ((pw m k : Nat) : Int) * ((m : Int) + 1) = ((pw m (k + 1) : Nat) : Int) := by
          show _ = (((m + 1) * pw m k : Nat) : Int)
          rw [Int.natCast_mul, Int.mul_comm]
          rfl
        rw [e, wr_id ⟨by omega, by omega⟩] at et
        rw [← et, show ((k : Int) + 1) = ((k + 1 : Nat) : Int) by omega] at h
        exact ih (k + 1) (by omega) h
  exact key 9 0 (by decide) h
theorem wk_find {l m : Nat} {z : Int} {V J W V10 V11 X : Nat → Nat → Int} {R : Nat → Nat → Nat} (h : WR R V W) (hl : l < 4) (hm : 1 ≤ m ∧ m ≤ 3) (hlen : m ≤ (lwl (W 1) 8).length) (h76 : bt (W 1 76) (l : Int) = 1) (h77 : ¬ bt (W 1 77) (l : Int) = 1) (k10 : f_s_copyT V J R V10) (kf : f_s_find (l : Int) (m : Int) V10 J R (z, V11)) (hX : ∀ i : Nat, i ≠ 20 → i ≠ 21 → X i = W i) (hX20 : ∀ j : Nat, j < m → X 20 j = zLw (W 1) j) :
    ∃ V5 : Nat → Nat → Int, zRel R l m 0 V5 X ∧ zTk R l m 0 0 (fun _ => True) V5 V11 ∧ V5 105 6 = 8 ∧ (z = if 7 < V11 105 6 then 0 else 1) ∧ V11 105 4 = (m : Int) ∧ ∀ j : Nat, j < m → V11 107 j = zLw (W 1) j := by
  obtain ⟨c1, c2⟩ := q_copy (d := 39) (s := 1) (by omega) k10
  have r1 : RLz 39 V10 (W 1) := h.1.1.copy c1 (fun _ _ => rfl)
  have r2 : RTx R V10 W := h.2.2.2.1.1.cg (fun i i1 i2 i3 => c2 i (by omega)) (fun _ _ _ => rfl)
  unfold f_s_find at kf
  obtain ⟨V1, e1, kf⟩ := rdb_g kf
  obtain ⟨z2, e2, -, kf⟩ := rdb_g kf
  have e2 : z2 = (m : Int) := by omega
  subst e2
  obtain ⟨V3, e3, kf⟩ := rdb_g kf
  obtain ⟨V4, k4, -, kf⟩ := kf
  obtain ⟨V5, e5, kf⟩ := rdb_g kf
  obtain ⟨V6, k6, -, kf⟩ := kf
  obtain ⟨z7, e7, kf⟩ := rdb_g kf
  have v3 : ∀ i : Nat, i ≠ 105 → V3 i = V10 i := fun i hi => by rw [← e3, up2_c _ _ hi, ← e1, up2_c _ _ hi]
  obtain ⟨f1, f2⟩ := q_fillLow7 (b := 39) (N := W 1) (by decide) (fun p hp => by rw [v3 _ (by omega)]; exact (r1.2.1 p hp).1) hm.2 k4
  have v5 : ∀ i : Nat, i ≠ 105 → V5 i = V4 i := fun i hi => by rw [← e5, up2_c _ _ hi]
  have low : ∀ i : Nat, i ≠ 105 → i ≠ 107 → V5 i = V10 i := fun i i1 i2 => by rw [v5 i i1, f1 i i2, v3 i i1]
  have a4 : V5 105 4 = (m : Int) := by rw [← e5, up2_n _ _ (Or.inr (by decide)), f1 105 (by decide), ← e3, up2_s]
  have a5 : V5 105 5 = (l : Int) := by rw [← e5, up2_n _ _ (Or.inr (by decide)), f1 105 (by decide), ← e3, up2_n _ _ (Or.inr (by decide)), ← e1, up2_s]
  have a6 : V5 105 6 = 8 := by rw [← e5, up2_s]
  have a7 : ∀ j : Nat, j < m → V5 107 j = zLw (W 1) j := fun j hj => by rw [v5 107 (by decide)]; exact f2 j hj (by omega)
  have x1 : X 1 = W 1 := hX 1 (by decide) (by decide)
  have hrel : zRel R l m 0 V5 X := by
    refine ⟨?_, ?_, by rw [x1]; exact h76, by rw [x1]; have := h.1.2; omega, fun j hj => ?_⟩
    · rw [x1]; exact r1.cg2 (fun i i1 i2 => low i (by omega) (by omega)) (fun _ _ => rfl)
    · exact r2.cg (fun i i1 i2 i3 => low i (by omega) (by omega)) (fun i i1 i2 => hX i (by omega) (by omega))
    · have zr := zLw_r (N := W 1) j
      rw [a7 j hj, hX20 j hj, x1]
      exact ⟨rfl, by omega, zLw_t (by omega)⟩
  have pl := hrel.1.1 l hl
  rw [show 39 + 3 + 2 * l = 42 + 2 * l by omega] at pl
  have nd : ¬ dedX (V5 (42 + 2 * l)) := (hrel.liv hl).mpr (by rw [x1]; exact h77)
  have d3 : V5 39 3 = X 1 79 := hrel.1.2.2.2.1
  have d0 := hrel.1.2.2.2.2.2.2.2.2.1
  have d9 := h.1.2
  obtain ⟨g1, g2⟩ := go_all hl hm.2 0 V5 J V6 k6 a4 a5 nd pl.2.2.2.2.2.2.2.2.2.2.1.1 ⟨by rw [d3]; exact d0, by rw [d3, x1]; omega⟩ (by rw [a6]; decide) (Nat.le_refl _) (fun j hj => by
    have zr := zLw_r (N := W 1) j
    rw [a7 j hj]; omega)
  have fin : V11 = V6 ∧ z = if 7 < V6 105 6 then 0 else 1 := by
    rw [e7]
    by_cases g : 7 < z7
    · rw [if_pos g] at kf
      simp only [rtn, Prod.mk.injEq] at kf
      rw [if_pos g]
      exact ⟨kf.2, kf.1⟩
    · rw [if_neg g] at kf
      simp only [rtn, Prod.mk.injEq] at kf
      rw [if_neg g]
      exact ⟨kf.2, kf.1⟩
  refine ⟨V5, hrel, by rw [fin.1]; exact g2, a6, by rw [fin.1]; exact fin.2, by rw [fin.1, g1.2.1.1]; exact a4, fun j hj => by rw [fin.1, g1.2.2.1]; exact a7 j hj⟩
set_option maxRecDepth 100000 in
theorem e_week {x y z a b : Int} {V V2 J W Jm X : Nat → Nat → Int} {R Rm : Nat → Nat → Nat} (h : WR R V W) (hx : f_s_week x y z V J R (a, V2)) (hm : f_m_week x y z W Jm Rm (b, X)) : a = b := by
  have same : ∀ {c : Int} {V3 W3 : Nat → Nat → Int}, rtn (c, V3) (a, V2) → rtn (c, W3) (b, X) → a = b := fun h1 h2 => by
    simp only [rtn, Prod.mk.injEq] at h1 h2
    rw [h1.1, h2.1]
  unfold f_s_week at hx
  unfold f_m_week at hm
  obtain ⟨z1, h1, -, hx⟩ := hx
  obtain ⟨y1, k1, -, hm⟩ := hm
  obtain ⟨e1, q1⟩ := h.1.1.alive h1 k1
  subst e1
  by_cases g1 : z1 = 0
  · rw [if_pos g1] at hx hm; exact same hx hm
  rw [if_neg g1] at hx hm
  have q1 := q1.on g1
  obtain ⟨l, rfl⟩ : ∃ l : Nat, x = (l : Int) := ⟨x.toNat, by omega⟩
  obtain ⟨_, -, -, hm⟩ := rdb_g hm
  obtain ⟨_, -, -, hm⟩ := rdb_g hm
  obtain ⟨x4, a4, -, hx⟩ := hx
  unfold f_s_areTold at a4
  obtain ⟨x5, a5, -, a4⟩ := a4
  obtain ⟨y6, b6, -, hm⟩ := hm
  have e6 := (q_within a5).eq (q_in b6) Iff.rfl
  have q6 := q_in b6
  by_cases g6 : y6 = 0
  · rw [if_pos (by omega)] at a4
    have a4 : x4 = 0 := a4
    rw [if_neg (fun hh => hh a4)] at hx
    rw [if_pos g6] at hm
    exact same hx hm
  rw [if_neg (by omega)] at a4
  rw [if_neg g6] at hm
  have q6 := q6.on g6
  obtain ⟨m, rfl⟩ : ∃ m : Nat, y = (m : Int) := ⟨y.toNat, by omega⟩
  have hm3 : 1 ≤ m ∧ m ≤ 3 := by omega
  obtain ⟨told, et, a4⟩ := rdb_g a4
  have ln := lwl_n (N := W 1)
  rw [h.1.1.2.2.1, ← ln] at et
  -- the reference lays the lowest m, or there aren't so many
  by_cases gt : told < (m : Int)
  · rw [if_pos gt] at a4
    have a4 : x4 = 0 := a4
    rw [if_neg (fun hh => hh a4)] at hx
    have ea : a = -1 := by
      simp only [rtn, Prod.mk.injEq] at hx
      exact hx.1
    rw [ea]
    have no : ∀ (w : Int) (S : Nat → Nat → Int) (K : (Int × (Nat → Nat → Int)) → Prop), f_m_laysSome (m : Int) W Jm Rm (w, S) → (if ¬ w = 0 then K else rtn ((-1 : Int), S)) (b, X) → (-1 : Int) = b := fun w S K hl hh => by
      obtain ⟨c1, -, -⟩ := q_laysSome hm3.2 hl
      rw [if_neg (by omega)] at c1
      rw [if_neg (fun hq => hq c1)] at hh
      simp only [rtn, Prod.mk.injEq] at hh
      exact hh.1.symm
    obtain ⟨y9, b9, -, hm⟩ := hm
    by_cases g9 : ¬ y9 = 0
    · rw [if_pos g9] at hm
      obtain ⟨w, S, hl, -, -, hm⟩ := hm
      exact no w S _ hl hm
    · rw [if_neg g9] at hm
      obtain ⟨y7, b7, -, hm⟩ := hm
      by_cases g7 : y7 = 0
      · rw [if_pos g7] at hm
        simp only [rtn, Prod.mk.injEq] at hm
        exact hm.1.symm
      · rw [if_neg g7] at hm
        obtain ⟨w, S, hl, -, -, hm⟩ := hm
        exact no w S _ hl hm
  rw [if_neg gt] at a4
  have a4 : x4 = 1 := a4
  rw [if_pos (by omega)] at hx
  have hlen : m ≤ (lwl (W 1) 8).length := by omega
  obtain ⟨y9, b9, -, hm⟩ := hm
  have q9 := q_in b9
  obtain ⟨x7, a7, -, hx⟩ := hx
  have q7 := q_place a7
  by_cases g9 : ¬ y9 = 0
  · -- 10 or 11
    rw [if_pos g9] at hm
    have w9 := q9.on g9
    have x70 : x7 = 0 := by
      rcases q7 with ⟨-, q⟩ | ⟨q, -⟩
      · omega
      · exact q
    rw [if_neg (fun hh => hh x70)] at hx
    obtain ⟨w, S, hls, -, -, hm⟩ := hm
    obtain ⟨c1, c2, c3⟩ := q_laysSome hm3.2 hls
    rw [if_pos hlen] at c1
    rw [if_pos (by omega)] at hm
    have c20 : ∀ j : Nat, j < m → S 20 j = zLw (W 1) j := fun j hj => (c3 hlen j hj).1
    have hm := wk_rows hm3.2 hm
    by_cases g10 : z = 10
    · rw [if_pos g10] at hx
      obtain ⟨V15, k15, -, hx⟩ := hx
      obtain ⟨zf, V16, kf, -, -, hx⟩ := hx
      obtain ⟨V5, p1, p2, p3, p4, p5, p6⟩ := wk_find h (by omega) hm3 hlen q1.1.2.2 q1.2 k15 kf c2 c20
      obtain ⟨bb, hbb, hm⟩ := lop3_g hm
      obtain ⟨be, W9, w1, w2, w3⟩ := wk_search hm3.2 p1 p2 p3 hbb _ hm
      rcases w3 with ⟨d1, d2⟩ | ⟨c, d1, d2, d3, d4, d5, d6⟩
      · rw [d1, if_pos (by decide)] at p4
        rw [if_neg (fun hh => hh p4)] at hx
        rw [if_neg (fun hh => hh d2)] at w1
        exact same hx w1
      · have cb := cmr_b m 7 c
        rw [d3, if_neg (by omega)] at p4
        rw [if_pos (by omega)] at hx
        rw [if_pos (by omega), if_neg (fun hh => hh g10)] at w1
        obtain ⟨k, hk, w1⟩ := w1
        rw [d1] at hk
        have pb := pw_b m hm3.2 7 (Nat.le_refl 7)
        have hk := q_comings hm3.2 (by omega) hk
        rw [Nat.mod_eq_of_lt d2] at hk
        simp only [rdb, rtn, Prod.mk.injEq] at hx w1
        rw [hx.1, w1.1, hk, d3]
    · have g11 : z = 11 := by omega
      rw [if_neg g10, if_pos g11] at hx
      obtain ⟨V15, k15, -, hx⟩ := hx
      obtain ⟨zf, V16, kf, -, -, hx⟩ := hx
      obtain ⟨V5, p1, p2, p3, p4, p5, p6⟩ := wk_find h (by omega) hm3 hlen q1.1.2.2 q1.2 k15 kf c2 c20
      obtain ⟨bb, hbb, hm⟩ := lop3_g hm
      obtain ⟨be, W9, w1, w2, w3⟩ := wk_search hm3.2 p1 p2 p3 hbb _ hm
      rcases w3 with ⟨d1, d2⟩ | ⟨c, d1, d2, d3, d4, d5, d6⟩
      · rw [d1, if_pos (by decide)] at p4
        rw [if_neg (fun hh => hh p4)] at hx
        rw [if_neg (fun hh => hh d2)] at w1
        exact same hx w1
      · have cb := cmr_b m 7 c
        rw [d3, if_neg (by omega)] at p4
        rw [if_pos (by omega)] at hx
        rw [if_pos (by omega), if_pos g10] at w1
        obtain ⟨k, S9, hk, -, w1⟩ := w1
        rw [d1] at hk
        have hk := wk_try d2 hm3.2 p1 w2 d6 hk
        simp only [rdb, rtn, Prod.mk.injEq] at hx w1
        rw [hx.1, w1.1, hk]
  · -- a DAY
    rw [if_neg g9] at hm
    have w9 := q9.off (by omega)
    obtain ⟨y7, b7, -, hm⟩ := hm
    have qq7 := q_in b7
    by_cases g7 : y7 = 0
    · rw [if_pos g7] at hm
      have n7 := qq7.off g7
      have x70 : x7 = 0 := by
        rcases q7 with ⟨-, q⟩ | ⟨q, -⟩
        · omega
        · exact q
      rw [if_neg (fun hh => hh x70), if_neg (by omega), if_neg (by omega)] at hx
      exact same hx hm
    rw [if_neg g7] at hm
    have n7 := qq7.on g7
    have x71 : ¬ x7 = 0 := by
      rcases q7 with ⟨q, -⟩ | ⟨-, q⟩
      · omega
      · exact absurd ⟨by omega, by omega⟩ q
    rw [if_pos x71] at hx
    obtain ⟨w, S, hls, -, -, hm⟩ := hm
    obtain ⟨c1, c2, c3⟩ := q_laysSome hm3.2 hls
    rw [if_pos hlen] at c1
    rw [if_pos (by omega)] at hm
    have c20 : ∀ j : Nat, j < m → S 20 j = zLw (W 1) j := fun j hj => (c3 hlen j hj).1
    have hm := wk_rows hm3.2 hm
    obtain ⟨V15, k15, -, hx⟩ := hx
    obtain ⟨zf, V16, kf, -, -, hx⟩ := hx
    obtain ⟨V5, p1, p2, p3, p4, p5, p6⟩ := wk_find h (by omega) hm3 hlen q1.1.2.2 q1.2 k15 kf c2 c20
    obtain ⟨bb, hbb, hm⟩ := lop3_g hm
    obtain ⟨be, W9, w1, w2, w3⟩ := wk_search hm3.2 p1 p2 p3 hbb _ hm
    obtain ⟨dd, rfl⟩ : ∃ dd : Nat, z = (dd : Int) := ⟨z.toNat, by omega⟩
    rcases w3 with ⟨d1, d2⟩ | ⟨c, d1, d2, d3, d4, d5, d6⟩
    · rw [d1, if_pos (by decide)] at p4
      rw [if_neg (fun hh => hh p4)] at hx
      rw [if_neg (fun hh => hh d2)] at w1
      exact same hx w1
    · have cb := cmr_b m 7 c
      have pb := pw_b m hm3.2 7 (Nat.le_refl 7)
      rw [d3, if_neg (by omega)] at p4
      rw [if_pos (by omega)] at hx
      rw [if_pos (by omega)] at w1
      obtain ⟨k, hk, -, w1⟩ := w1
      rw [d1] at hk
      have hk := q_comingIn hm3.2 (by omega) (by omega) hk
      have dm : dgt m c dd < m + 1 := Nat.mod_lt _ (by omega)
      obtain ⟨v, hv, hx⟩ := hx
      unfold f_s_comer at hv
      obtain ⟨p, ep, -, hv⟩ := rdb_g hv
      rw [Int.toNat_natCast, d4 dd (by omega)] at ep
      obtain ⟨mm, em, -, hv⟩ := rdb_g hv
      rw [p5] at em
      have hxa : a = v := by
        simp only [rtn, Prod.mk.injEq] at hx
        exact hx.1
      by_cases gm : dgt m c dd = m
      · rw [if_pos (by omega)] at hv
        have hv : v = -3 := hv
        rw [if_neg (fun hh => hh (by omega))] at w1
        simp only [rtn, Prod.mk.injEq] at w1
        rw [hxa, hv, w1.1]
      · rw [if_neg (by omega)] at hv
        rw [if_pos (by omega)] at w1
        obtain ⟨s, es, -, hv⟩ := rdb_g hv
        have hv : v = s := hv
        obtain ⟨t, et2, -, w1⟩ := rdb_g w1
        simp only [rtn, Prod.mk.injEq] at w1
        rw [← ep, Int.toNat_natCast, p6 _ (by omega)] at es
        rw [hk, Int.toNat_natCast, w2.2.1, c20 _ (by omega)] at et2
        rw [hxa, hv, w1.1, ← es, ← et2]
end
section
section XG
variable {p : Program} {l : Launch} {e : Env} {R : Room} {s : State} {m : MethodId} {args : Array Value} {below : List Frame} {meth : Method} {c : Code} {cells slots : Nat} {Q : State → Prop}
variable {D : va_G} {A : Nat → Prop} {H0 : Heap} {nL : Nat} {ws : va_W} {pc : Nat} {lv : List (Nat × Value)} {st : List Value} {cc : ByteArray} {own : String} {cy : Nat → ClassId}
theorem x_lw {ws2 : va_W} (h : ws = ws2) (k : xW p l e R s m args below meth c D A H0 nL cells slots Q ws2 pc lv st) : xW p l e R s m args below meth c D A H0 nL cells slots Q ws pc lv st := by subst h; exact k
theorem x_gobj (C : xC2 p s m args meth c D A H0 nL cc own (xTY cy)) {index : Nat} {a : Nat} (hlink : Cond.methodLink own index objectInit ∈ WG) (hd : decode cc pc = .ok (.invokespecial index, 3)) (hf : 1 ≤ R.frames) (hlo : (st.map fun v => v.category).sum + 12 ≤ R.locals) (k : xW p l e R s m args below meth c D A H0 nL cells slots Q ws (pc + 3) lv st) : xW p l e R s m args below meth c D A H0 nL cells slots Q ws pc lv (.ref a :: st) := by
  intro H locs la hP hD hS hl
  refine W.objInit C.1.1 C.1.2.1 C.1.2.2.2.1 (C.1.2.2.2.2.1 _ hlink) (C.1.2.2.2.2.1 _ wi_objectInit) (C.1.2.2.2.2.1 _ wm_objectInit) rfl (by rw [C.1.2.2.1]; exact hl.1) rfl hd hf (by show 2 * 0 + _ + 12 ≤ _; omega) ?_
  exact k H locs la hP hD hS hl
theorem x_gget (C : xC2 p s m args meth c D A H0 nL cc own (xTY cy)) {a : Nat} {ci : Nat} {fs : List Value} (q0 : Nat) (he : ws[q0]? = some (a, .inr (ci, fs))) {Cn : String} {T : u_T} {NN index : Nat} (hc : vwCl[ci]? = some (Cn, T, NN)) (hin : ∀ w ∈ u_ws Cn T NN, w ∈ WG) (k : Nat) (hk : k < NN) (hw : Cond.fieldLink own index (T k).1 (T k).2.1 (T k).2.2.1 ∈ WG) {v : Value} (hv : fs[k]? = some v) (hd : decode cc pc = .ok (.getfield index, 3)) (kk : xW p l e R s m args below meth c D A H0 nL cells slots Q ws (pc + 3) lv (v :: st)) : xW p l e R s m args below meth c D A H0 nL cells slots Q ws pc lv (.ref a :: st) :=
  fun H locs la hP hD hS hl => va_get C.1.1 C.1.2.1 C.1.2.2.2.2.1 hin C.1.2.2.2.1 C.1.2.2.2.2.2.1 hP q0 he hc k hk (C.1.2.2.2.2.1 _ hw) (fun _ h => h) hv hd (kk H locs la hP hD hS hl)
theorem x_gput (C : xC2 p s m args meth c D A H0 nL cc own (xTY cy)) {a : Nat} {ci : Nat} {fs : List Value} (q0 : Nat) (he : ws[q0]? = some (a, .inr (ci, fs))) {Cn : String} {T : u_T} {NN index : Nat} (hc : vwCl[ci]? = some (Cn, T, NN)) (hin : ∀ w ∈ u_ws Cn T NN, w ∈ WG) (k : Nat) (hk : k < NN) (hw : Cond.fieldLink own index (T k).1 (T k).2.1 (T k).2.2.1 ∈ WG) (ty0 : Nat → FieldType) (hty : ∀ k, k < NN → parseFieldDescriptor (T k).2.2.1 = some (ty0 k)) (hnm : ∀ a, a < NN → ∀ b, b < NN → a ≠ b → (T a).2.1 ≠ (T b).2.1) (hfin : (T k).2.2.2 = false) {ty : FieldType} (hpd : parseFieldDescriptor (T k).2.2.1 = some ty) {v : Value} (hnar : narrow ty v = v) (hfit : fits ty v = true) (hl : k < fs.length) (hd : decode cc pc = .ok (.putfield index, 3)) {ws2 : va_W} (hws : ws.set q0 (a, .inr (ci, fs.set k v)) = ws2) (kk : xW p l e R s m args below meth c D A H0 nL cells slots Q ws2 (pc + 3) lv st) : xW p l e R s m args below meth c D A H0 nL cells slots Q ws pc lv (v :: .ref a :: st) := by
  intro H locs la hP hD hS hlv
  refine va_put C.1.1 C.1.2.1 C.1.2.2.2.2.1 hin ty0 hty hnm C.1.2.2.2.1 C.1.2.2.2.2.2.1 hP hD hS q0 he hc k hk (C.1.2.2.2.2.1 _ hw) (fun _ h => h) hfin hpd hnar hfit hl hd (fun H1 locs1 hP1 hD1 hS1 => ?_)
  rw [hws] at hP1 hD1
  exact kk H1 locs1 la hP1 hD1 hS1 hlv
theorem x_gputF (C : xC2 p s m args meth c D A H0 nL cc own (xTY cy)) {a : Nat} {ci : Nat} {fs : List Value} (q0 : Nat) (he : ws[q0]? = some (a, .inr (ci, fs))) {Cn : String} {T : u_T} {NN index : Nat} (hc : vwCl[ci]? = some (Cn, T, NN)) (hin : ∀ w ∈ u_ws Cn T NN, w ∈ WG) (k : Nat) (hk : k < NN) (hw : Cond.fieldLink own index (T k).1 (T k).2.1 (T k).2.2.1 ∈ WG) (ty0 : Nat → FieldType) (hty : ∀ k, k < NN → parseFieldDescriptor (T k).2.2.1 = some (ty0 k)) (hnm : ∀ a, a < NN → ∀ b, b < NN → a ≠ b → (T a).2.1 ≠ (T b).2.1) (hfin : (T k).2.2.2 = true) (hin2 : meth.name = "<init>") (hdecl : (T k).1 = own) {ty : FieldType} (hpd : parseFieldDescriptor (T k).2.2.1 = some ty) {v : Value} (hnar : narrow ty v = v) (hfit : fits ty v = true) (hl : k < fs.length) (hd : decode cc pc = .ok (.putfield index, 3)) {ws2 : va_W} (hws : ws.set q0 (a, .inr (ci, fs.set k v)) = ws2) (kk : xW p l e R s m args below meth c D A H0 nL cells slots Q ws2 (pc + 3) lv st) : xW p l e R s m args below meth c D A H0 nL cells slots Q ws pc lv (v :: .ref a :: st) := by
  intro H locs la hP hD hS hlv
  refine va_putF C.1.1 C.1.2.1 C.1.2.2.2.2.1 hin ty0 hty hnm C.1.2.2.2.1 C.1.2.2.2.2.2.1 hP hD hS q0 he hc k hk (C.1.2.2.2.2.1 _ hw) (fun _ h => h) hfin hin2 hdecl hpd hnar hfit hl hd (fun H1 locs1 hP1 hD1 hS1 => ?_)
  rw [hws] at hP1 hD1
  exact kk H1 locs1 la hP1 hD1 hS1 hlv
theorem x_gnew (C : xC2 p s m args meth c D A H0 nL cc own (xTY cy)) {Cn : String} {T : u_T} {NN ci index : Nat} (hcl : Cond.classLink own index Cn ∈ WG) (hinst : Cond.instantiable Cn NN ∈ WG) (hini : Cond.initialized Cn ∈ WG) (hin : ∀ w ∈ u_ws Cn T NN, w ∈ WG) (ty : Nat → FieldType) (hty : ∀ k, k < NN → parseFieldDescriptor (T k).2.2.1 = some (ty k)) (hc : vwCl[ci]? = some (Cn, T, NN)) {fs : List Value} (hfs : ∀ j, j < NN → defaultValue (ty j) = vp_V fs j) (hcells : cells + 1 ≤ R.cells) (hslots : slots + NN ≤ R.slots) (hd : decode cc pc = .ok (.new index, 3)) {ws2 : Nat → va_W} (hws : ∀ q, ws ++ [(q, .inr (ci, fs))] = ws2 q) (kk : ∀ q : Nat, xW p l e R s m args below meth c D A H0 nL (cells + 1) (slots + NN) Q (ws2 q) (pc + 3) lv (.ref q :: st)) : xW p l e R s m args below meth c D A H0 nL cells slots Q ws pc lv st := by
  intro H locs la hP hD hS hl
  refine va_new C.1.1 C.1.2.1 C.1.2.2.2.2.1 hin ty hty C.1.2.2.2.1 (C.1.2.2.2.2.1 _ hcl) (C.1.2.2.2.2.1 _ hinst) (C.1.2.2.2.2.1 _ hini) C.1.2.2.2.2.2.1 hP hD hS C.1.2.2.2.2.2.2.1 hc hfs hcells hslots hd (fun q H1 hP1 hD1 hS1 => ?_)
  rw [hws] at hP1 hD1
  exact kk q H1 locs la hP1 hD1 hS1 hl
theorem x_gnewa (C : xC2 p s m args meth c D A H0 nL cc own (xTY cy)) {atype : ArrayType} {ty : FieldType} (hty : newarray.typeOf atype = ty) (hwd : Cond.arrayClass ty ∈ WG) {t : Nat} (ht : (xTY cy)[t]? = some (cy t, ty)) (hprim : ∀ (U : State) (cA : ClassId), va_RA U cA ty → U.vm.findClass ("[" ++ ty.toString) = some cA) {N' : Nat} {a0 : vp_A} (ha : ∀ cA : ClassId, vp_cell cA a0 = arrV cA N' (fun _ => defaultValue ty)) (hN : N' < 2147483648) (hbytes : N' * componentBytes ty ≤ 536870912) (hcells : cells + 1 ≤ R.cells) (hslots : slots + N' ≤ R.slots) (hd : decode cc pc = .ok (.newarray atype, 2)) {ws2 : Nat → va_W} (hws : ∀ q, ws ++ [(q, .inl (cy t, a0))] = ws2 q) (kk : ∀ q : Nat, xW p l e R s m args below meth c D A H0 nL (cells + 1) (slots + N') Q (ws2 q) (pc + 2) lv (.ref q :: st)) : xW p l e R s m args below meth c D A H0 nL cells slots Q ws pc lv (vI (N' : Int) :: st) := by
  intro H locs la hP hD hS hl
  have r : R32 (N' : Int) := ⟨by omega, by omega⟩
  subst hty
  refine va_newa C.1.1 C.1.2.1 (C.1.2.2.2.2.1 _ hwd) rfl C.1.2.2.2.2.2.1 hP hD hS C.1.2.2.2.2.2.2.1 ha (fun h => by have := (xi_lt (b := 0) r (by decide)).mp h; omega) (by rw [xi_nat r]; omega) hbytes hcells hslots hd (fun q cA H1 hK1 hP1 hD1 hS1 => ?_)
  have e1 := hprim _ _ (hK1.2 (xTY cy).length (cA, newarray.typeOf atype) (by simp)).2
  have e2 := hprim _ _ (C.1.2.2.2.2.2.1.2 t _ ht).2
  have e3 : cA = cy t := Option.some.inj (e1.symm.trans e2)
  subst e3
  rw [hws] at hP1 hD1
  exact kk q H1 locs la hP1 hD1 hS1 hl
theorem x_gnewq (C : xC2 p s m args meth c D A H0 nL cc own (xTY cy)) {Cn : String} {index : Nat} (hcl : Cond.classLink own index Cn ∈ WG) (hov : Cn ∈ [RX5, RX4, RX9]) {t : Nat} (ht : (xTY cy)[t]? = some (cy t, .object Cn)) {N' : Nat} (hN : N' < 2147483648) (hbytes : N' * 4 ≤ 536870912) (hcells : cells + 1 ≤ R.cells) (hslots : slots + N' ≤ R.slots) (hd : decode cc pc = .ok (.anewarray index, 3)) {ws2 : Nat → va_W} (hws : ∀ q, ws ++ [(q, .inl (cy t, N', .inr (.inr (.inr (.inr (fun _ => none))))))] = ws2 q) (kk : ∀ q : Nat, xW p l e R s m args below meth c D A H0 nL (cells + 1) (slots + N') Q (ws2 q) (pc + 3) lv (.ref q :: st)) : xW p l e R s m args below meth c D A H0 nL cells slots Q ws pc lv (vI (N' : Int) :: st) := by
  intro H locs la hP hD hS hl
  have r : R32 (N' : Int) := ⟨by omega, by omega⟩
  refine va_newq C.1.1 C.1.2.1 C.1.2.2.2.1 (C.1.2.2.2.2.1 _ hcl) (C.2.1 _ hov) C.1.2.2.2.2.2.1 hP hD hS C.1.2.2.2.2.2.2.1 (fun h => by have := (xi_lt (b := 0) r (by decide)).mp h; omega) (N' := N') (by rw [xi_nat r]; omega) hbytes hcells hslots hd (fun q cA H1 hK1 hP1 hD1 hS1 => ?_)
  obtain ⟨_, _, _, _, _, e1⟩ := (hK1.2 (xTY cy).length (cA, .object Cn) (by simp)).2
  obtain ⟨_, _, _, _, _, e2⟩ := (C.1.2.2.2.2.2.1.2 t _ ht).2
  have e3 : cA = cy t := Option.some.inj (e1.symm.trans e2)
  subst e3
  rw [hws] at hP1 hD1
  exact kk q H1 locs la hP1 hD1 hS1 hl
theorem x_gastq (C : xC2 p s m args meth c D A H0 nL cc own (xTY cy)) {t : Nat} {r : vw_C} (ht : (xTY cy)[t]? = some (cy t, .object r.1)) {a n v ci : Nat} {vs : List Value} {f : Nat → Option Nat} (q0 qk : Nat) (ha : ws[q0]? = some (a, .inl (cy t, n, .inr (.inr (.inr (.inr f)))))) (hv : ws[qk]? = some (v, .inr (ci, vs))) (hc : vwCl[ci]? = some r) (i : Nat) (hi : i < n) (hn : n < 2147483648) (hd : decode cc pc = .ok (.aastore, 1)) {ws2 : va_W} (hws : ws.set q0 (a, .inl (cy t, n, .inr (.inr (.inr (.inr (va_up f i (some v))))))) = ws2) (kk : xW p l e R s m args below meth c D A H0 nL cells slots Q ws2 (pc + 1) lv st) : xW p l e R s m args below meth c D A H0 nL cells slots Q ws pc lv (.ref v :: vI (i : Int) :: .ref a :: st) := by
  intro H locs la hP hD hS hl
  refine va_astq C.1.1 C.1.2.1 C.1.2.2.2.2.2.1 hP hD hS q0 t qk ci (r := r) ha ht hv hc (xi_in (a := (i : Int)) (by omega) hn) hd (fun H1 locs1 hP1 hD1 hS1 => ?_)
  rw [xi_nat ⟨by omega, by omega⟩, Int.toNat_natCast, hws] at hP1 hD1
  exact kk H1 locs1 la hP1 hD1 hS1 hl
theorem x_giast (C : xC2 p s m args meth c D A H0 nL cc own (xTY cy)) {a n : Nat} {f : Nat → Int32} {x : Int} (q0 : Nat) (ha : ws[q0]? = some (a, .inl (cy 0, n, .inl f))) (i : Nat) (hi : i < n) (hn : n < 2147483648) (hd : decode cc pc = .ok (.iastore, 1)) {ws2 : va_W} (hws : ws.set q0 (a, .inl (cy 0, n, .inl (upd f i (Int32.ofInt x)))) = ws2) (kk : xW p l e R s m args below meth c D A H0 nL cells slots Q ws2 (pc + 1) lv st) : xW p l e R s m args below meth c D A H0 nL cells slots Q ws pc lv (vI x :: vI (i : Int) :: .ref a :: st) := by
  intro H locs la hP hD hS hl
  refine va_iast C.1.1 C.1.2.1 C.1.2.2.2.2.2.1 hP hD hS q0 0 ha rfl (xi_in (a := (i : Int)) (by omega) hn) hd (fun H1 locs1 hP1 hD1 hS1 => ?_)
  rw [xi_nat ⟨by omega, by omega⟩, Int.toNat_natCast, hws] at hP1 hD1
  exact kk H1 locs1 la hP1 hD1 hS1 hl
end XG
end
