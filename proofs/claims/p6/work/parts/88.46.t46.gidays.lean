-- cups are few: days (own work)
theorem k_dries2 {l : Nat} {s : Int} {V J X : Nat → Nat → Int} {R : Nat → Nat → Nat} (hl : l < 4) (h : f_m_dries (l : Int) s V J R X) : ∀ k : Nat, 4 ≤ k → k < 8 → k ≠ 4 + l → X 1 k = V 1 k := by
  unfold f_m_dries at h
  obtain ⟨z1, -, -, h⟩ := rdb_g h
  obtain ⟨z2, -, -, h⟩ := rdb_g h
  obtain ⟨V3, -, F3, h⟩ := h
  obtain ⟨z4, V4, -, F4, -, h⟩ := h
  have e4 : V4 1 = V 1 := by rw [F4.rw 1 (by decide) (by decide), F3.rw 1 (by decide) (by decide)]
  have tail : ∀ (V9 V5 : Nat → Nat → Int) (w d r : Int), V5 1 = V 1 → up2 V5 1 ((l : Int) + 4).toNat w = V9 → dTail l w d r V9 X → ∀ k : Nat, 4 ≤ k → k < 8 → k ≠ 4 + l → X 1 k = V 1 k := fun V9 V5 w d r e5 e9 ht k k1 k2 k3 => by
    obtain ⟨_, _, -, -, -, -, -, tof⟩ := q_dTail hl ht
    rw [tof k (by omega) (by omega) (by omega) (by omega), ← e9, up2_n _ _ (Or.inr (by omega)), e5]
  by_cases g : s = 0
  · rw [if_pos g] at h
    obtain ⟨_, -, -, h⟩ := rdb_g h
    obtain ⟨w, -, h⟩ := h
    obtain ⟨V9, e9, h⟩ := rdb_g h
    exact tail _ _ _ _ _ e4 e9 h
  · rw [if_neg g] at h
    obtain ⟨_, V5, -, F5, -, h⟩ := h
    obtain ⟨_, -, -, h⟩ := rdb_g h
    obtain ⟨w, -, h⟩ := h
    obtain ⟨V9, e9, h⟩ := rdb_g h
    exact tail _ _ _ _ _ (by rw [F5.rw 1 (by decide) (by decide), e4]) e9 h
def SM (N M : Nat → Int) : Prop := M 76 = N 76 ∧ M 78 = N 78 ∧ M 79 = N 79
theorem gb_waters {p l : Nat} {u : Nat → Int} {V J X : Nat → Nat → Int} {R : Nat → Nat → Nat} (hp : p < 8) (hl : l < 4) (h76 : bt (V 1 76) l = 1) (h78 : bt (V 1 78) p = 1) (hD : V 1 79 ≤ 9999 ∧ u p ≤ 5000) (hG : GB u (V 1)) (h : f_m_waters (p : Int) (l : Int) V J R X) : GB (fun q => if q = p then u p + 999 else u q) (X 1) ∧ SM (V 1) (X 1) := by
  unfold f_m_waters at h
  obtain ⟨g, V1, -, F1, rg, h⟩ := h
  obtain ⟨_, -, -, h⟩ := rdb_g h
  obtain ⟨_, -, -, h⟩ := rdb_g h
  obtain ⟨w, -, h⟩ := h
  obtain ⟨V6, e6, h⟩ := rdb_g h
  obtain ⟨z7, e7, h⟩ := rdb_g h
  obtain ⟨z8, e8, h⟩ := rdb_g h
  obtain ⟨V9, e9, h⟩ := rdb_g h
  obtain ⟨_, -, h⟩ := rdb_g h
  obtain ⟨_, -, h⟩ := rdb_g h
  obtain ⟨V12, e12, h⟩ := rdb_g h
  obtain ⟨_, -, h⟩ := rdb_g h
  obtain ⟨_, -, h⟩ := rdb_g h
  obtain ⟨_, -, h⟩ := rdb_g h
  obtain ⟨V16, e16, h⟩ := rdb_g h
  obtain ⟨z17, e17, h⟩ := rdb_g h
  obtain ⟨z18, e18, h⟩ := rdb_g h
  obtain ⟨V19, e19, h⟩ := rdb_g h
  rw [show ((l : Int) + 4).toNat = 4 + l by omega] at e6
  rw [show ((p : Int) + 68).toNat = 68 + p by omega] at e7 e9
  have v61 : V6 1 = up1 (V 1) (4 + l) w := by rw [← e6, up2_row, F1.rw 1 (by decide) (by decide)]
  have r1 : V19 1 = up1 (up1 (V 1) (4 + l) w) (68 + p) z8 := by rw [← e19, up2_c _ _ (by decide), ← e16, up2_c _ _ (by decide), ← e12, up2_c _ _ (by decide), ← e9, up2_row, v61]
  rw [v61, up1_of (by omega)] at e7
  have gp := hG.2 p hp
  have ez8 : z8 = V 1 (68 + p) + g := by rw [← e8, ← e7]; exact wr_id ⟨by omega, by omega⟩
  have n19 : ∀ k : Nat, k ≠ 4 + l → k ≠ 68 + p → V19 1 k = V 1 k := fun k k1 k2 => by rw [r1, up1_of k2, up1_of k1]
  have n68 : V19 1 (68 + p) = z8 := by rw [r1, up1_at]
  have fin : ∀ X2 : Nat → Nat → Int, (∀ k : Nat, k ≠ 20 + l → X2 1 k = V19 1 k) → GB (fun q => if q = p then u p + 999 else u q) (X2 1) ∧ SM (V 1) (X2 1) := fun X2 hX => by
    have n : ∀ k : Nat, k ≠ 4 + l → k ≠ 68 + p → k ≠ 20 + l → X2 1 k = V 1 k := fun k k1 k2 k3 => by rw [hX k k3, n19 k k1 k2]
    refine ⟨⟨fun q hq hb => ?_, fun q hq => ?_⟩, n 76 (by omega) (by omega) (by omega), n 78 (by omega) (by omega) (by omega), n 79 (by omega) (by omega) (by omega)⟩
    · rw [n 76 (by omega) (by omega) (by omega)] at hb
      by_cases e : q = l
      · rw [e, h76] at hb; omega
      · rw [n (4 + q) (by omega) (by omega) (by omega)]
        exact hG.1 q hq hb
    · rw [n 78 (by omega) (by omega) (by omega), n 79 (by omega) (by omega) (by omega)]
      by_cases e : q = p
      · rw [e, hX (68 + p) (by omega), n68, ez8]
        refine ⟨fun hb => by omega, by omega, ?_⟩
        show V 1 (68 + p) + g ≤ 3996 * V 1 79 + (if p = p then u p + 999 else u p)
        rw [if_pos rfl]
        omega
      · rw [n (68 + q) (by omega) (by omega) (by omega)]
        have k := hG.2 q hq
        refine ⟨k.1, k.2.1, ?_⟩
        show V 1 (68 + q) ≤ 3996 * V 1 79 + (if q = p then u p + 999 else u q)
        rw [if_neg e]
        exact k.2.2
  by_cases g1 : g ≤ 0
  · rw [if_pos g1] at h
    have h : X = V19 := h
    rw [h]; exact fin V19 (fun _ _ => rfl)
  · rw [if_neg g1] at h
    obtain ⟨z21, -, h⟩ := rdb_g h
    by_cases g2 : z21 = (-2)
    · rw [if_pos g2] at h
      have h : X = V19 := h
      rw [h]; exact fin V19 (fun _ _ => rfl)
    · rw [if_neg g2] at h
      obtain ⟨_, -, h⟩ := rdb_g h
      obtain ⟨V24, e24, h⟩ := rdb_g h
      have h : X = V24 := h
      rw [h]
      exact fin V24 (fun k hk => by rw [← e24, up2_n _ _ (Or.inr (by omega))])
theorem SM.tr {N M P : Nat → Int} (h : SM N M) (k : SM M P) : SM N P := ⟨k.1.trans h.1, k.2.1.trans h.2.1, k.2.2.trans h.2.2⟩
theorem gi_day {V J X : Nat → Nat → Int} {R : Nat → Nat → Nat} (hD : 0 ≤ V 1 79 ∧ V 1 79 ≤ 9999) (hG : GI (V 1)) (h : f_m_dayGoes V J R X) : GI (X 1) ∧ X 1 79 = V 1 79 + 1 := by
  unfold f_m_dayGoes at h
  refine lop2_k (fun (z : Int) (V2 : Nat → Nat → Int) => 0 ≤ z ∧ SM (V 1) (V2 1) ∧ GB (fun p => if (p : Int) < z then 3996 else 0) (V2 1)) (fun X : Nat → Nat → Int => GI (X 1) ∧ X 1 79 = V 1 79 + 1) (fun rc hrc z V1 hV1 r h => ?_) _ _ _ ⟨by omega, ⟨rfl, rfl, rfl⟩, hG.mono (fun p hp => by rw [if_neg (by omega)]; exact Int.le_refl _)⟩ _ h
  obtain ⟨hz, hS, hV1⟩ := hV1
  by_cases g : 8 ≤ z
  · rw [if_pos g] at h
    refine lop2_k (fun (z : Int) (V2 : Nat → Nat → Int) => 0 ≤ z ∧ SM (V 1) (V2 1) ∧ GB (fun _ => 3996) (V2 1)) (fun X : Nat → Nat → Int => GI (X 1) ∧ X 1 79 = V 1 79 + 1) (fun rc2 hrc2 z2 V2 hV2 r h => ?_) _ _ _ ⟨by omega, hS, hV1.mono (fun p hp => by split <;> omega)⟩ _ h
    obtain ⟨hz2, hS2, hV2⟩ := hV2
    by_cases g2 : 4 ≤ z2
    · rw [if_pos g2] at h
      obtain ⟨t1, et1, h⟩ := rdb_g h
      obtain ⟨t2, et2, h⟩ := rdb_g h
      obtain ⟨V3, e3, h⟩ := rdb_g h
      have h : r = V3 := h
      rw [h]
      have s79 := hS2.2.2
      rw [← et1, s79, wr_id ⟨by omega, by omega⟩] at et2
      have n : ∀ k : Nat, k ≠ 79 → V3 1 k = V2 1 k := fun k hk => by rw [← e3, up2_n _ _ (Or.inr hk)]
      have n79 : V3 1 79 = V 1 79 + 1 := by rw [← e3, up2_s, et2]
      refine ⟨⟨fun l hl hb => ?_, fun p hp => ?_⟩, n79⟩
      · rw [n 76 (by decide)] at hb
        rw [n (4 + l) (by omega)]
        exact hV2.1 l hl hb
      · rw [n 78 (by decide), n79, n (68 + p) (by omega)]
        have k := hV2.2 p hp
        rw [s79] at k
        refine ⟨k.1, k.2.1, ?_⟩
        show V2 1 (68 + p) ≤ 3996 * (V 1 79 + 1) + 0
        have k2 : V2 1 (68 + p) ≤ 3996 * V 1 79 + 3996 := k.2.2
        omega
    · rw [if_neg g2] at h
      obtain ⟨w, hw, -, h⟩ := h
      have hw := q_mLives hw
      have h := jnk_d h
      by_cases g3 : ¬ w = 0
      · rw [if_pos g3] at h
        have qw := hw.on g3
        obtain ⟨_, -, -, h⟩ := rdb_g h
        obtain ⟨_, -, -, h⟩ := rdb_g h
        obtain ⟨s, V4, h4, -, h⟩ := h
        have d4 := k_draws h4
        have h := jnk_if h
        obtain ⟨_, -, h⟩ := rdb_g h
        have h := jnk_if h
        obtain ⟨_, -, h⟩ := rdb_g h
        obtain ⟨V5, e5, h⟩ := rdb_g h
        obtain ⟨V6, h6, F6, h⟩ := h
        obtain ⟨l, rfl⟩ : ∃ l : Nat, z2 = (l : Int) := ⟨z2.toNat, by omega⟩
        have d6 := k_dries (by omega) h6
        have d7 := k_dries2 (by omega) h6
        have b5 : ∀ k : Nat, k ≠ 80 → V5 1 k = V2 1 k := fun k hk => by rw [← e5, up2_c _ _ (by decide), d4 _ _ (Or.inr hk)]
        have b6 : ∀ k : Nat, 52 ≤ k → k ≠ 77 → k ≠ 80 → V6 1 k = V2 1 k := fun k k1 k2 k3 => by rw [d6 k k1 k2, b5 k k3]
        refine hrc2 _ _ ⟨by omega, hS2.tr ⟨b6 76 (by decide) (by decide) (by decide), b6 78 (by decide) (by decide) (by decide), b6 79 (by decide) (by decide) (by decide)⟩, fun q hq hb => ?_, fun p hp => ?_⟩ _ h
        · rw [b6 76 (by decide) (by decide) (by decide)] at hb
          by_cases e : q = l
          · rw [e, qw.1.2.2] at hb; omega
          · rw [d7 (4 + q) (by omega) (by omega) (by omega), b5 (4 + q) (by omega)]
            exact hV2.1 q hq hb
        · rw [b6 78 (by decide) (by decide) (by decide), b6 79 (by decide) (by decide) (by decide), b6 (68 + p) (by omega) (by omega) (by omega)]
          exact hV2.2 p hp
      · rw [if_neg g3] at h
        exact hrc2 _ _ ⟨by omega, hS2, hV2⟩ _ h
  · rw [if_neg g] at h
    obtain ⟨w, hw, -, h⟩ := h
    have hw := q_mPerson hw
    have h := jnk_d h
    by_cases g3 : w = 0
    · rw [if_pos g3] at h
      exact hrc _ _ ⟨by omega, hS, hV1.mono (fun p hp => by split <;> split <;> omega)⟩ _ h
    · rw [if_neg g3] at h
      have qw := hw.on g3
      obtain ⟨s, V4, h4, -, h⟩ := h
      have d4 := k_draws h4
      have n4 : ∀ k : Nat, k ≠ 80 → V4 1 k = V1 1 k := fun k hk => d4 _ _ (Or.inr hk)
      have hS4 : SM (V 1) (V4 1) := hS.tr ⟨n4 76 (by decide), n4 78 (by decide), n4 79 (by decide)⟩
      have hV4 : GB (fun p => if (p : Int) < z then 3996 else 0) (V4 1) := hV1.cg (fun k k1 k2 => n4 k (by omega)) (fun k k1 k2 _ => n4 k (by omega))
      obtain ⟨t, -, h⟩ := rdb_g h
      by_cases g4 : s < t
      · rw [if_pos g4] at h
        refine lop2_k (fun (z2 : Int) (V2 : Nat → Nat → Int) => (0 ≤ z2 ∧ z2 ≤ 4) ∧ SM (V 1) (V2 1) ∧ GB (fun p => if (p : Int) < z then 3996 else if (p : Int) = z then 999 * z2 else 0) (V2 1)) (fun X : Nat → Nat → Int => GI (X 1) ∧ X 1 79 = V 1 79 + 1) (fun rc2 hrc2 z2 V2 hV2 r h => ?_) _ _ _ ⟨by omega, hS4, hV4.mono (fun p hp => by split; omega; split <;> omega)⟩ _ h
        obtain ⟨hz2, hS2, hV2⟩ := hV2
        by_cases g5 : 4 ≤ z2
        · rw [if_pos g5] at h
          exact hrc _ _ ⟨by omega, hS2, hV2.mono (fun p hp => by
            show (if (p : Int) < z then (3996 : Int) else if (p : Int) = z then 999 * z2 else 0) ≤ if (p : Int) < z + 1 then 3996 else 0
            split
            · rw [if_pos (by omega)]; omega
            · split
              · rw [if_pos (by omega)]; omega
              · split <;> omega)⟩ _ h
        · rw [if_neg g5] at h
          obtain ⟨v, hv, -, h⟩ := h
          have hv := q_mLives hv
          have h := jnk_d h
          by_cases g6 : v = 0
          · rw [if_pos g6] at h
            exact hrc2 _ _ ⟨by omega, hS2, hV2.mono (fun p hp => by
              show (if (p : Int) < z then (3996 : Int) else if (p : Int) = z then 999 * z2 else 0) ≤ if (p : Int) < z then 3996 else if (p : Int) = z then 999 * (z2 + 1) else 0
              split
              · omega
              · split <;> omega)⟩ _ h
          · rw [if_neg g6] at h
            have qv := hv.on g6
            obtain ⟨_, -, -, h⟩ := rdb_g h
            obtain ⟨_, -, -, h⟩ := rdb_g h
            obtain ⟨V7, h7, -, h9⟩ := h
            obtain ⟨p, rfl⟩ : ∃ p : Nat, z = (p : Int) := ⟨z.toNat, by omega⟩
            obtain ⟨l, rfl⟩ : ∃ l : Nat, z2 = (l : Int) := ⟨z2.toNat, by omega⟩
            have q78 : bt (V2 1 78) p = 1 := by rw [hS2.2.1, ← hS.2.1]; exact qw.2.2
            obtain ⟨w1, w2⟩ := gb_waters (p := p) (l := l) (by omega) (by omega) qv.1.2.2 q78 ⟨by rw [hS2.2.2]; omega, by
              show (if (p : Int) < (p : Int) then (3996 : Int) else if (p : Int) = (p : Int) then 999 * (l : Int) else 0) ≤ 5000
              rw [if_neg (by omega), if_pos rfl]; omega⟩ hV2 h7
            refine hrc2 _ _ ⟨by omega, hS2.tr w2, w1.mono (fun q hq => ?_)⟩ _ h9
            show (if q = p then (if (p : Int) < (p : Int) then (3996 : Int) else if (p : Int) = (p : Int) then 999 * (l : Int) else 0) + 999 else if (q : Int) < (p : Int) then 3996 else if (q : Int) = (p : Int) then 999 * (l : Int) else 0) ≤ if (q : Int) < (p : Int) then 3996 else if (q : Int) = (p : Int) then 999 * ((l : Int) + 1) else 0
            by_cases e : q = p
            · rw [if_pos e, if_neg (by omega), if_pos rfl, if_neg (by omega), if_pos (by omega)]; omega
            · rw [if_neg e]
              split
              · omega
              · rw [if_neg (by omega), if_neg (by omega)]; omega
      · rw [if_neg g4] at h
        exact hrc _ _ ⟨by omega, hS4, hV4.mono (fun p hp => by split <;> split <;> omega)⟩ _ h
set_option maxRecDepth 100000 in
theorem gi_days {x : Int} {W J X : Nat → Nat → Int} {R : Nat → Nat → Nat} (hD : 0 ≤ W 1 79 ∧ W 1 79 ≤ 9999) (hG : GI (W 1)) (h : f_m_daysGo x W J R X) : GI (X 1) := by
  unfold f_m_daysGo at h
  obtain ⟨V1, e1, h⟩ := rdb_g h
  obtain ⟨V2, e2, h⟩ := rdb_g h
  obtain ⟨V3, e3, h⟩ := rdb_g h
  have v3 : V3 1 = W 1 := by rw [← e3, up2_c _ _ (by decide), ← e2, up2_c _ _ (by decide), ← e1, up2_c _ _ (by decide)]
  refine lop2_k (fun (z : Int) (V : Nat → Nat → Int) => V 1 = W 1) (fun X : Nat → Nat → Int => GI (X 1)) (fun rc hrc z V hV r h => ?_) _ _ _ v3 _ h
  by_cases g : 8 ≤ z
  · rw [if_pos g] at h
    refine lop2_k (fun (z : Int) (V : Nat → Nat → Int) => (0 ≤ V 1 79 ∧ V 1 79 ≤ 9999) ∧ GI (V 1)) (fun X : Nat → Nat → Int => GI (X 1)) (fun rc2 hrc2 z2 V2 hV2 r h => ?_) _ _ _ ⟨by rw [hV]; exact hD, by rw [hV]; exact hG⟩ _ h
    obtain ⟨hd2, hV2⟩ := hV2
    by_cases g2 : x ≤ z2
    · rw [if_pos g2] at h
      have h : r = V2 := h
      rw [h]; exact hV2
    · rw [if_neg g2] at h
      obtain ⟨y, ey, h⟩ := rdb_g h
      by_cases g3 : 9999 ≤ y
      · rw [if_pos g3] at h
        have h : r = V2 := h
        rw [h]; exact hV2
      · rw [if_neg g3] at h
        obtain ⟨V5, h5, -, h⟩ := h
        obtain ⟨k1, k2⟩ := gi_day hd2 hV2 h5
        exact hrc2 _ _ ⟨by omega, k1⟩ _ h
  · rw [if_neg g] at h
    obtain ⟨V5, e5, h⟩ := rdb_g h
    exact hrc _ _ (by rw [← e5, up2_c _ _ (by decide)]; exact hV) _ h
theorem gw_days {x b : Int} {V W Jm X : Nat → Nat → Int} {R Rm : Nat → Nat → Nat} (h : WR R V W) (hG : GW W) (hm : f_m_days x W Jm Rm (b, X)) : GW X := by
  unfold f_m_days at hm
  obtain ⟨y1, -, -, hm⟩ := hm
  by_cases g1 : ¬ y1 = 0
  · rw [if_pos g1] at hm
    obtain ⟨Y, hY, hF, hm⟩ := hm
    obtain ⟨_, -, hm⟩ := rdb_g hm
    simp only [rtn, Prod.mk.injEq] at hm
    obtain ⟨rfl, rfl⟩ := hm
    refine ⟨gi_days ⟨h.1.1.2.2.2.2.2.2.2.2.1, h.1.2⟩ hG.1 hY, ?_⟩
    rw [hF.fl 53 (by decide), hF.rw 3 (by decide) (by decide)]
    exact hG.2
  · rw [if_neg g1] at hm
    simp only [rtn, Prod.mk.injEq] at hm
    rw [hm.2]; exact hG
