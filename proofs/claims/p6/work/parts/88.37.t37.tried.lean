-- answers: tried (own work)
theorem k_dries {l : Nat} {s : Int} {V J X : Nat → Nat → Int} {R : Nat → Nat → Nat} (hl : l < 4) (h : f_m_dries (l : Int) s V J R X) : ∀ k : Nat, 52 ≤ k → k ≠ 77 → X 1 k = V 1 k := by
  unfold f_m_dries at h
  obtain ⟨z1, -, -, h⟩ := rdb_g h
  obtain ⟨z2, -, -, h⟩ := rdb_g h
  obtain ⟨V3, -, F3, h⟩ := h
  obtain ⟨z4, V4, -, F4, -, h⟩ := h
  have e4 : V4 1 = V 1 := by rw [F4.rw 1 (by decide) (by decide), F3.rw 1 (by decide) (by decide)]
  have tail : ∀ (V9 V5 : Nat → Nat → Int) (w d r : Int), V5 1 = V 1 → up2 V5 1 ((l : Int) + 4).toNat w = V9 → dTail l w d r V9 X → ∀ k : Nat, 52 ≤ k → k ≠ 77 → X 1 k = V 1 k := fun V9 V5 w d r e5 e9 ht k k1 k2 => by
    obtain ⟨_, _, -, -, -, -, -, tof⟩ := q_dTail hl ht
    rw [tof k (by omega) (by omega) k2 (by omega), ← e9, up2_n _ _ (Or.inr (by omega)), e5]
  by_cases g : s = 0
  · rw [if_pos g] at h
    obtain ⟨_, -, -, h⟩ := rdb_g h
    obtain ⟨w, -, h⟩ := h
    obtain ⟨V9, e9, h⟩ := rdb_g h
    exact tail _ _ _ _ _ e4 e9 h
  · rw [if_neg g] at h
    obtain ⟨_, V5, -, F5, -, h⟩ := h
    obtain ⟨_, -, -, h⟩ := rdb_g h
    obtain ⟨w, -, h⟩ := h
    obtain ⟨V9, e9, h⟩ := rdb_g h
    exact tail _ _ _ _ _ (by rw [F5.rw 1 (by decide) (by decide), e4]) e9 h
theorem k_draws {a : Int} {V J X : Nat → Nat → Int} {R : Nat → Nat → Nat} (h : f_m_draws V J R (a, X)) : ∀ i k : Nat, i ≠ 1 ∨ k ≠ 80 → X i k = V i k := by
  unfold f_m_draws at h
  obtain ⟨_, -, h⟩ := rdb_g h
  obtain ⟨_, -, h⟩ := rdb_g h
  obtain ⟨_, -, h⟩ := rdb_g h
  obtain ⟨z4, -, -, h⟩ := rdb_g h
  obtain ⟨V5, e5, h⟩ := rdb_g h
  obtain ⟨_, -, -, h⟩ := rdb_g h
  simp only [rtn, Prod.mk.injEq] at h
  intro i k hik
  rw [h.2, ← e5, up2_n _ _ hik]
/-- cups given since -/
def G19 (W X : Nat → Nat → Int) : Prop := ∀ p : Nat, p < 8 → X 19 p = wr (X 1 (68 + p) - W 1 (68 + p))
theorem g19_waters {p l : Nat} {W V J X : Nat → Nat → Int} {R : Nat → Nat → Nat} (hp : p < 8) (hl : l < 4) (hG : G19 W V) (h : f_m_waters (p : Int) (l : Int) V J R X) : G19 W X := by
  unfold f_m_waters at h
  obtain ⟨g, V1, -, F1, -, h⟩ := h
  obtain ⟨_, -, -, h⟩ := rdb_g h
  obtain ⟨_, -, -, h⟩ := rdb_g h
  obtain ⟨w, -, h⟩ := h
  obtain ⟨V6, e6, h⟩ := rdb_g h
  obtain ⟨z7, e7, h⟩ := rdb_g h
  obtain ⟨z8, e8, h⟩ := rdb_g h
  obtain ⟨V9, e9, h⟩ := rdb_g h
  obtain ⟨_, -, h⟩ := rdb_g h
  obtain ⟨_, -, h⟩ := rdb_g h
  obtain ⟨V12, e12, h⟩ := rdb_g h
  obtain ⟨_, -, h⟩ := rdb_g h
  obtain ⟨_, -, h⟩ := rdb_g h
  obtain ⟨_, -, h⟩ := rdb_g h
  obtain ⟨V16, e16, h⟩ := rdb_g h
  obtain ⟨z17, e17, h⟩ := rdb_g h
  obtain ⟨z18, e18, h⟩ := rdb_g h
  obtain ⟨V19, e19, h⟩ := rdb_g h
  rw [show ((l : Int) + 4).toNat = 4 + l by omega] at e6
  rw [show ((p : Int) + 68).toNat = 68 + p by omega] at e7 e9
  rw [Int.toNat_natCast] at e17 e19
  have hG19 : G19 W V19 := by
    intro q hq
    have v6 : ∀ k : Nat, k ≠ 4 + l → V6 1 k = V 1 k := fun k hk => by rw [← e6, up2_n _ _ (Or.inr hk), F1.rw 1 (by decide) (by decide)]
    have v16 : V16 19 = V 19 := by rw [← e16, up2_c _ _ (by decide), ← e12, up2_c _ _ (by decide), ← e9, up2_c _ _ (by decide), ← e6, up2_c _ _ (by decide), F1.rw 19 (by decide) (by decide)]
    have r1 : V19 1 = up1 (V6 1) (68 + p) z8 := by rw [← e19, up2_c _ _ (by decide), ← e16, up2_c _ _ (by decide), ← e12, up2_c _ _ (by decide), ← e9, up2_row]
    have r19 : V19 19 = up1 (V 19) p z18 := by rw [← e19, up2_row, v16]
    rw [r1, r19]
    by_cases e : q = p
    · rw [e, up1_at, up1_at, ← e18, ← e17, v16, ← e8, ← e7, v6 _ (by omega), hG p hp, wr_add, Int.sub_eq_add_neg (a := wr _), wr_add]
      congr 1
      omega
    · rw [up1_of e, up1_of (by omega), v6 _ (by omega)]
      exact hG q hq
  by_cases g1 : g ≤ 0
  · rw [if_pos g1] at h
    have h : X = V19 := h
    rw [h]; exact hG19
  · rw [if_neg g1] at h
    obtain ⟨z21, -, h⟩ := rdb_g h
    by_cases g2 : z21 = (-2)
    · rw [if_pos g2] at h
      have h : X = V19 := h
      rw [h]; exact hG19
    · rw [if_neg g2] at h
      obtain ⟨_, -, h⟩ := rdb_g h
      obtain ⟨V24, e24, h⟩ := rdb_g h
      have h : X = V24 := h
      rw [h]
      intro q hq
      rw [← e24, up2_n _ _ (Or.inl (by decide)), up2_n _ _ (Or.inr (by omega))]
      exact hG19 q hq
theorem g19_keep {W V X : Nat → Nat → Int} (hG : G19 W V) (h1 : ∀ p : Nat, p < 8 → X 1 (68 + p) = V 1 (68 + p)) (h19 : ∀ p : Nat, p < 8 → X 19 p = V 19 p) : G19 W X := fun p hp => by
  rw [h1 p hp, h19 p hp]
  exact hG p hp
theorem g19_day {W V J X : Nat → Nat → Int} {R : Nat → Nat → Nat} (hG : G19 W V) (h : f_m_dayGoes V J R X) : G19 W X := by
  unfold f_m_dayGoes at h
  refine lop2_k (fun z V => 0 ≤ z ∧ G19 W V) (fun X => G19 W X) (fun rc hrc z V1 hV1 r h => ?_) _ _ _ ⟨by omega, hG⟩ _ h
  obtain ⟨hz, hV1⟩ := hV1
  by_cases g : 8 ≤ z
  · rw [if_pos g] at h
    refine lop2_k (fun z V => 0 ≤ z ∧ G19 W V) (fun X => G19 W X) (fun rc2 hrc2 z2 V2 hV2 r h => ?_) _ _ _ ⟨by omega, hV1⟩ _ h
    obtain ⟨hz2, hV2⟩ := hV2
    by_cases g2 : 4 ≤ z2
    · rw [if_pos g2] at h
      obtain ⟨_, -, h⟩ := rdb_g h
      obtain ⟨_, -, h⟩ := rdb_g h
      obtain ⟨V3, e3, h⟩ := rdb_g h
      have h : r = V3 := h
      rw [h]
      exact g19_keep hV2 (fun p hp => by rw [← e3, up2_n _ _ (Or.inr (by omega))]) (fun p hp => by rw [← e3, up2_c _ _ (by decide)])
    · rw [if_neg g2] at h
      obtain ⟨w, -, -, h⟩ := h
      have h := jnk_d h
      by_cases g3 : ¬ w = 0
      · rw [if_pos g3] at h
        obtain ⟨_, -, -, h⟩ := rdb_g h
        obtain ⟨_, -, -, h⟩ := rdb_g h
        obtain ⟨s, V4, h4, -, h⟩ := h
        have d4 := k_draws h4
        have h := jnk_if h
        obtain ⟨_, -, h⟩ := rdb_g h
        have h := jnk_if h
        obtain ⟨_, -, h⟩ := rdb_g h
        obtain ⟨V5, e5, h⟩ := rdb_g h
        obtain ⟨V6, h6, F6, h⟩ := h
        obtain ⟨l, rfl⟩ : ∃ l : Nat, z2 = (l : Int) := ⟨z2.toNat, by omega⟩
        have d6 := k_dries (by omega) h6
        refine hrc2 _ _ ⟨by omega, g19_keep hV2 (fun p hp => ?_) (fun p hp => ?_)⟩ _ h
        · rw [d6 _ (by omega) (by omega), ← e5, up2_c _ _ (by decide), d4 _ _ (Or.inr (by omega))]
        · rw [F6.rw 19 (by decide) (by decide), ← e5, up2_c _ _ (by decide), d4 _ _ (Or.inl (by decide))]
      · rw [if_neg g3] at h
        exact hrc2 _ _ ⟨by omega, hV2⟩ _ h
  · rw [if_neg g] at h
    obtain ⟨w, -, -, h⟩ := h
    have h := jnk_d h
    by_cases g3 : w = 0
    · rw [if_pos g3] at h
      exact hrc _ _ ⟨by omega, hV1⟩ _ h
    · rw [if_neg g3] at h
      obtain ⟨s, V4, h4, -, h⟩ := h
      have d4 := k_draws h4
      have hV4 : G19 W V4 := g19_keep hV1 (fun p hp => d4 _ _ (Or.inr (by omega))) (fun p hp => d4 _ _ (Or.inl (by decide)))
      obtain ⟨t, -, h⟩ := rdb_g h
      by_cases g4 : s < t
      · rw [if_pos g4] at h
        refine lop2_k (fun z V => 0 ≤ z ∧ G19 W V) (fun X => G19 W X) (fun rc2 hrc2 z2 V2 hV2 r h => ?_) _ _ _ ⟨by omega, hV4⟩ _ h
        obtain ⟨hz2, hV2⟩ := hV2
        by_cases g5 : 4 ≤ z2
        · rw [if_pos g5] at h
          exact hrc _ _ ⟨by omega, hV2⟩ _ h
        · rw [if_neg g5] at h
          obtain ⟨v, -, -, h⟩ := h
          have h := jnk_d h
          by_cases g6 : v = 0
          · rw [if_pos g6] at h
            exact hrc2 _ _ ⟨by omega, hV2⟩ _ h
          · rw [if_neg g6] at h
            obtain ⟨_, -, -, h⟩ := rdb_g h
            obtain ⟨_, -, -, h⟩ := rdb_g h
            obtain ⟨V7, h7, -, h9⟩ := h
            obtain ⟨p, rfl⟩ : ∃ p : Nat, z = (p : Int) := ⟨z.toNat, by omega⟩
            obtain ⟨l, rfl⟩ : ∃ l : Nat, z2 = (l : Int) := ⟨z2.toNat, by omega⟩
            exact hrc2 _ _ ⟨by omega, g19_waters (by omega) (by omega) hV2 h7⟩ _ h9
      · rw [if_neg g4] at h
        exact hrc _ _ ⟨by omega, hV4⟩ _ h
set_option maxRecDepth 100000 in
theorem g19_days {x : Int} {W J X : Nat → Nat → Int} {R : Nat → Nat → Nat} (h : f_m_daysGo x W J R X) : G19 W X := by
  unfold f_m_daysGo at h
  obtain ⟨V1, e1, h⟩ := rdb_g h
  obtain ⟨V2, e2, h⟩ := rdb_g h
  obtain ⟨V3, e3, h⟩ := rdb_g h
  have v3 : V3 1 = W 1 := by rw [← e3, up2_c _ _ (by decide), ← e2, up2_c _ _ (by decide), ← e1, up2_c _ _ (by decide)]
  refine lop2_k (fun z V => 0 ≤ z ∧ V 1 = W 1 ∧ ∀ p : Nat, (p : Int) < z → V 19 p = 0) (fun X => G19 W X) (fun rc hrc z V hV r h => ?_) _ _ _ ⟨by omega, v3, fun p hp => by omega⟩ _ h
  obtain ⟨hz, hV1, hV⟩ := hV
  by_cases g : 8 ≤ z
  · rw [if_pos g] at h
    have g0 : G19 W V := fun p hp => by
      rw [hV p (by omega), hV1, Int.sub_self]
      exact (wr_id ⟨by omega, by omega⟩).symm
    refine lop2_k (fun z V => G19 W V) (fun X => G19 W X) (fun rc2 hrc2 z2 V2 hV2 r h => ?_) _ _ _ g0 _ h
    by_cases g2 : x ≤ z2
    · rw [if_pos g2] at h
      have h : r = V2 := h
      rw [h]; exact hV2
    · rw [if_neg g2] at h
      obtain ⟨y, -, h⟩ := rdb_g h
      by_cases g3 : 9999 ≤ y
      · rw [if_pos g3] at h
        have h : r = V2 := h
        rw [h]; exact hV2
      · rw [if_neg g3] at h
        obtain ⟨V5, h5, -, h⟩ := h
        exact hrc2 _ _ (g19_day hV2 h5) _ h
  · rw [if_neg g] at h
    obtain ⟨V5, e5, h⟩ := rdb_g h
    refine hrc _ _ ⟨by omega, by rw [← e5, up2_c _ _ (by decide), hV1], fun p hp => ?_⟩ _ h
    rw [← e5]
    by_cases e : p = z.toNat
    · rw [e, up2_s]
    · rw [up2_n _ _ (Or.inr e)]
      exact hV p (by omega)
theorem q_canTry {x z : Int} {V J : Nat → Nat → Int} {R : Nat → Nat → Nat} {N : Nat → Int} (hR : RLz 1 V N) (hxr : R32 x) (h : f_s_canTry x V J R z) : Sq z ((0 ≤ x ∧ x ≤ 3) ∨ (0 ≤ x - 10 ∧ x - 10 < 4 ∧ bt (N 76) (x - 10) = 1) ∨ (0 ≤ x - 20 ∧ x - 20 < 8 ∧ bt (N 78) (x - 20) = 1)) := by
  have yes : ∀ {P : Prop}, rtn 1 z → P → Sq z P := fun h p => Or.inl ⟨h, p⟩
  unfold f_s_canTry at h
  obtain ⟨z1, h1, -, h⟩ := h
  have h1 := q_sWithin h1
  by_cases g1 : ¬ z1 = 0
  · rw [if_pos g1] at h
    exact yes h (Or.inl (h1.on g1))
  rw [if_neg g1] at h
  have q1 := h1.off (by omega)
  obtain ⟨z4, e4, h⟩ := rdb_g h
  have w4 := wr_cases (z := x - 10) ⟨by omega, by omega⟩
  obtain ⟨z5, h5, -, h⟩ := h
  have h5 := q_sPlant h5
  by_cases g5 : ¬ z5 = 0
  · rw [if_pos g5] at h
    have q5 := hR.isP.mp (h5.on g5)
    have e : z4 = x - 10 := by omega
    rw [e] at q5
    exact yes h (Or.inr (Or.inl q5))
  rw [if_neg g5] at h
  have q5 := h5.off (by omega)
  obtain ⟨z8, e8, h⟩ := rdb_g h
  have w8 := wr_cases (z := x - 20) ⟨by omega, by omega⟩
  obtain ⟨z9, h9, -, h⟩ := h
  have h9 := q_sPerson h9
  by_cases g9 : z9 = 0
  · rw [if_pos g9] at h
    have q9 := h9.off g9
    refine Or.inr ⟨h, fun hp => ?_⟩
    rcases hp with hp | hp | hp
    · exact q1 hp
    · have e : z4 = x - 10 := by omega
      rw [← e] at hp
      exact q5 (hR.isP.mpr hp)
    · have e : z8 = x - 20 := by omega
      rw [← e] at hp
      exact q9 (hR.isPe.mpr hp)
  · rw [if_neg g9] at h
    have q9 := hR.isPe.mp (h9.on g9)
    have e : z8 = x - 20 := by omega
    rw [e] at q9
    exact yes h (Or.inr (Or.inr q9))
