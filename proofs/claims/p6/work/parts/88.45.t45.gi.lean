-- who was not told has nothing; cups are few (own work)
def GB (u : Nat → Int) (N : Nat → Int) : Prop := (∀ l : Nat, l < 4 → bt (N 76) l = 0 → N (4 + l) = 0) ∧ ∀ p : Nat, p < 8 → (bt (N 78) p = 0 → N (68 + p) = 0) ∧ 0 ≤ N (68 + p) ∧ N (68 + p) ≤ 3996 * N 79 + u p
def GI (N : Nat → Int) : Prop := GB (fun _ => 0) N
def GW (W : Nat → Nat → Int) : Prop := GI (W 1) ∧ (W 0 53 = 0 ∨ GI (W 3))
theorem GB.cg {u : Nat → Int} {N M : Nat → Int} (h : GB u N) (h1 : ∀ k : Nat, 4 ≤ k → k < 8 → M k = N k) (h2 : ∀ k : Nat, 68 ≤ k → k < 80 → k ≠ 77 → M k = N k) : GB u M := by
  obtain ⟨a, b⟩ := h
  refine ⟨fun l hl hb => ?_, fun p hp => ?_⟩
  · rw [h2 76 (by decide) (by decide) (by decide)] at hb
    rw [h1 _ (by omega) (by omega)]
    exact a l hl hb
  · rw [h2 78 (by decide) (by decide) (by decide), h2 79 (by decide) (by decide) (by decide), h2 (68 + p) (by omega) (by omega) (by omega)]
    exact b p hp
theorem GB.mono {u w : Nat → Int} {N : Nat → Int} (h : GB u N) (hu : ∀ p : Nat, p < 8 → u p ≤ w p) : GB w N := ⟨h.1, fun p hp => by
  have := h.2 p hp
  have := hu p hp
  exact ⟨(h.2 p hp).1, by omega, by omega⟩⟩
theorem GW.keep {W X : Nat → Nat → Int} (h : GW W) (m1 : ∀ k : Nat, k < 81 → X 1 k = W 1 k) (m3 : X 3 = W 3) (m5 : X 0 53 = W 0 53) : GW X := by
  obtain ⟨a, b⟩ := h
  refine ⟨GB.cg a (fun k _ h2 => m1 k (by omega)) (fun k _ h2 _ => m1 k (by omega)), ?_⟩
  rw [m5, m3]
  exact b
theorem GW.land {W X : Nat → Nat → Int} (h : GW W) (h1 : GI (X 1)) (hm : ∀ i : Nat, i ≠ 1 → X i = W i) : GW X := by
  refine ⟨h1, ?_⟩
  rw [hm 0 (by decide), hm 3 (by decide)]
  exact h.2
theorem gw_plant {x p w d b : Int} {V W Jm X : Nat → Nat → Int} {R Rm : Nat → Nat → Nat} (h : WR R V W) (hG : GW W) (hm : f_m_plant x p w d W Jm Rm (b, X)) : GW X := by
  have no : ∀ c : Int, rtn (c, W) (b, X) → GW X := fun c h => by
    simp only [rtn, Prod.mk.injEq] at h
    rw [h.2]; exact hG
  unfold f_m_plant at hm
  obtain ⟨y1, k1, -, hm⟩ := hm
  by_cases g1 : y1 = 0
  · rw [if_pos g1] at hm; exact no _ hm
  rw [if_neg g1] at hm
  have g1 := (q_mIn k1).on g1
  obtain ⟨y5, k5, -, hm⟩ := hm
  by_cases g5 : y5 = 0
  · rw [if_pos g5] at hm; exact no _ hm
  rw [if_neg g5] at hm
  obtain ⟨y8, k8, -, hm⟩ := hm
  by_cases g8 : y8 = 0
  · rw [if_pos g8] at hm; exact no _ hm
  rw [if_neg g8] at hm
  obtain ⟨y12, k12, -, hm⟩ := hm
  by_cases g12 : y12 = 0
  · rw [if_neg (fun hh => hh g12)] at hm; exact no _ hm
  rw [if_pos g12] at hm
  clear k1 k5 k8 k12
  obtain ⟨n, rfl⟩ : ∃ n : Nat, x = (n : Int) := ⟨x.toNat, by omega⟩
  have hn : n < 4 := by omega
  obtain ⟨s, f1, hm⟩ := rdb_g hm
  obtain ⟨s2, f2, hm⟩ := rdb_g hm
  obtain ⟨s3, f3, hm⟩ := rdb_g hm
  obtain ⟨W1, f4, hm⟩ := rdb_g hm
  obtain ⟨s5, f5, hm⟩ := rdb_g hm
  obtain ⟨s6, f6, hm⟩ := rdb_g hm
  obtain ⟨s7, f7, hm⟩ := rdb_g hm
  obtain ⟨s8, f8, hm⟩ := rdb_g hm
  obtain ⟨W2, f9, hm⟩ := rdb_g hm
  obtain ⟨W3, f10, hm⟩ := rdb_g hm
  obtain ⟨W4, f11, hm⟩ := rdb_g hm
  obtain ⟨W5, f12, hm⟩ := rdb_g hm
  obtain ⟨W6, f13, hm⟩ := rdb_g hm
  obtain ⟨W7, f14, hm⟩ := rdb_g hm
  obtain ⟨W8, f15, hm⟩ := rdb_g hm
  obtain ⟨-, m2, m3, m4⟩ := q_mFill rfl hm
  have r76 := h.1.1.2.2.2.2.2.1
  have o76 := bt_or (s := W 1 76) (p := n) ⟨r76.1, by omega⟩ ⟨by omega, by omega⟩
  have w8 : ∀ i : Nat, i ≠ 1 → W8 i = W i := fun i hi => by rw [← f15, up2_c _ _ hi, ← f14, up2_c _ _ hi, ← f13, up2_c _ _ hi, ← f12, up2_c _ _ hi, ← f11, up2_c _ _ hi, ← f10, up2_c _ _ hi, ← f9, up2_c _ _ hi, ← f4, up2_c _ _ hi]
  have e4 : ((n : Int) + 4).toNat = 4 + n := by omega
  have e8 : ((n : Int) + 8).toNat = 8 + n := by omega
  have e12 : ((n : Int) + 12).toNat = 12 + n := by omega
  have e16 : ((n : Int) + 16).toNat = 16 + n := by omega
  have e20 : ((n : Int) + 20).toNat = 20 + n := by omega
  have r8 : W8 1 = up1 (up1 (up1 (up1 (up1 (up1 (up1 (up1 (W 1) 76 s3) 77 s8) n p) (4 + n) w) (8 + n) d) (12 + n) 0) (16 + n) 0) (20 + n) (-2) := by
    rw [← f15, up2_row, ← f14, up2_row, ← f13, up2_row, ← f12, up2_row, ← f11, up2_row, ← f10, up2_row, ← f9, up2_row, ← f4, up2_row, e4, e8, e12, e16, e20, Int.toNat_natCast]
  have x76 : X 1 76 = iOr (W 1 76) (iShl 1 n) := by
    rw [m4 76 (by omega), r8, up1_of (by omega), up1_of (by omega), up1_of (by omega), up1_of (by omega), up1_of (by omega), up1_of (by omega), up1_of (by omega), up1_at, ← f3, ← f2, ← f1]
  have xo : ∀ k : Nat, k < 81 → k ≠ n → k ≠ 4 + n → k ≠ 8 + n → k ≠ 12 + n → k ≠ 16 + n → k ≠ 20 + n → ¬ (24 + 7 * n ≤ k ∧ k < 31 + 7 * n) → k ≠ 76 → k ≠ 77 → X 1 k = W 1 k := fun k _ k1 k2 k3 k4 k5 k6 k7 k8 k9 => by
    rw [m4 k k7, r8, up1_of k6, up1_of k5, up1_of k4, up1_of k3, up1_of k2, up1_of k1, up1_of k9, up1_of k8]
  have xh : ∀ k : Nat, 52 ≤ k → k < 81 → k ≠ 76 → k ≠ 77 → X 1 k = W 1 k := fun k k1 k2 k3 k4 => xo k k2 (by omega) (by omega) (by omega) (by omega) (by omega) (by omega) (by omega) k3 k4
  refine hG.land ⟨fun l hl hb => ?_, fun q hq => ?_⟩ (fun i hi => by rw [m2 i hi, w8 i hi])
  · rw [x76, o76.2 l ⟨by omega, by omega⟩] at hb
    by_cases e : l = n
    · rw [if_pos (by omega)] at hb; omega
    · rw [if_neg (by omega)] at hb
      rw [xo (4 + l) (by omega) (by omega) (by omega) (by omega) (by omega) (by omega) (by omega) (by omega) (by omega) (by omega)]
      exact hG.1.1 l hl hb
  · rw [xh 78 (by decide) (by decide) (by decide) (by decide), xh 79 (by decide) (by decide) (by decide) (by decide), xh (68 + q) (by omega) (by omega) (by omega) (by omega)]
    exact hG.1.2 q hq
theorem gw_person {x k t b : Int} {V W Jm X : Nat → Nat → Int} {R Rm : Nat → Nat → Nat} (h : WR R V W) (hG : GW W) (hm : f_m_person x k t W Jm Rm (b, X)) : GW X := by
  have no : ∀ c : Int, rtn (c, W) (b, X) → GW X := fun c h => by
    simp only [rtn, Prod.mk.injEq] at h
    rw [h.2]; exact hG
  unfold f_m_person at hm
  obtain ⟨y1, k1, -, hm⟩ := hm
  by_cases g1 : y1 = 0
  · rw [if_pos g1] at hm; exact no _ hm
  rw [if_neg g1] at hm
  have g1 := (q_mIn k1).on g1
  obtain ⟨y5, k5, -, hm⟩ := hm
  by_cases g5 : y5 = 0
  · rw [if_pos g5] at hm; exact no _ hm
  rw [if_neg g5] at hm
  obtain ⟨y8, k8, -, hm⟩ := hm
  by_cases g8 : y8 = 0
  · rw [if_neg (fun hh => hh g8)] at hm; exact no _ hm
  rw [if_pos g8] at hm
  clear k1 k5 k8
  obtain ⟨n, rfl⟩ : ∃ n : Nat, x = (n : Int) := ⟨x.toNat, by omega⟩
  have hn : n < 8 := by omega
  have r78 := h.1.1.2.2.2.2.2.2.2.1
  have o78 := bt_or (s := W 1 78) (p := n) r78 ⟨by omega, by omega⟩
  obtain ⟨s, f1, hm⟩ := rdb_g hm
  obtain ⟨s2, f2, hm⟩ := rdb_g hm
  obtain ⟨s3, f3, hm⟩ := rdb_g hm
  obtain ⟨W1, f4, hm⟩ := rdb_g hm
  obtain ⟨W2, f5, hm⟩ := rdb_g hm
  obtain ⟨W3, f6, hm⟩ := rdb_g hm
  obtain ⟨W4, f7, hm⟩ := rdb_g hm
  simp only [rtn, Prod.mk.injEq] at hm
  obtain ⟨rfl, rfl⟩ := hm
  have e52 : ((n : Int) + 52).toNat = 52 + n := by omega
  have e60 : ((n : Int) + 60).toNat = 60 + n := by omega
  have e68 : ((n : Int) + 68).toNat = 68 + n := by omega
  have xr : X 1 = up1 (up1 (up1 (up1 (W 1) 78 s3) (52 + n) k) (60 + n) t) (68 + n) 0 := by
    rw [← f7, up2_row, ← f6, up2_row, ← f5, up2_row, ← f4, up2_row, e52, e60, e68]
  have x78 : X 1 78 = iOr (W 1 78) (iShl 1 n) := by
    rw [xr, up1_of (by omega), up1_of (by omega), up1_of (by omega), up1_at, ← f3, ← f2, ← f1]
  have xo : ∀ k : Nat, k ≠ 52 + n → k ≠ 60 + n → k ≠ 68 + n → k ≠ 78 → X 1 k = W 1 k := fun k k1 k2 k3 k4 => by
    rw [xr, up1_of k3, up1_of k2, up1_of k1, up1_of k4]
  have x68 : X 1 (68 + n) = 0 := by rw [xr, up1_at]
  have h79 := h.1.1.2.2.2.2.2.2.2.2.1
  have x79 : X 1 79 = W 1 79 := xo 79 (by omega) (by omega) (by omega) (by decide)
  refine hG.land ⟨fun l hl hb => ?_, fun q hq => ?_⟩ (fun i hi => by rw [← f7, up2_c _ _ hi, ← f6, up2_c _ _ hi, ← f5, up2_c _ _ hi, ← f4, up2_c _ _ hi])
  · rw [xo 76 (by omega) (by omega) (by omega) (by decide)] at hb
    rw [xo (4 + l) (by omega) (by omega) (by omega) (by omega)]
    exact hG.1.1 l hl hb
  · rw [x78, o78.2 q ⟨by omega, by omega⟩, x79]
    by_cases e : q = n
    · rw [e, x68, if_pos rfl]
      exact ⟨fun _ => rfl, by omega, by show (0 : Int) ≤ 3996 * W 1 79 + 0; omega⟩
    · rw [if_neg (by omega), xo (68 + q) (by omega) (by omega) (by omega) (by omega)]
      exact hG.1.2 q hq
theorem gw_card {x y b : Int} {V W Jm X : Nat → Nat → Int} {R Rm : Nat → Nat → Nat} (h : WR R V W) (hG : GW W) (hm : f_m_card x y W Jm Rm (b, X)) : GW X := by
  have no : ∀ c : Int, rtn (c, W) (b, X) → GW X := fun c h => by
    simp only [rtn, Prod.mk.injEq] at h
    rw [h.2]; exact hG
  unfold f_m_card at hm
  obtain ⟨y1, k1, -, hm⟩ := hm
  by_cases g1 : y1 = 0
  · rw [if_pos g1] at hm; exact no _ hm
  rw [if_neg g1] at hm
  have q1 := (q_mPlant k1).on g1
  obtain ⟨z4, e4, hm⟩ := rdb_g hm
  have hm := jnk_if hm
  have up : ∀ v : Int, (rdb (up2 W 1 ((x + 20).toNat) v) fun V9 => rtn (1, V9)) (b, X) → GW X := fun v hm => by
    obtain ⟨W9, f9, hm⟩ := rdb_g hm
    simp only [rtn, Prod.mk.injEq] at hm
    obtain ⟨rfl, rfl⟩ := hm
    have xo : ∀ k : Nat, k ≠ (x + 20).toNat → X 1 k = W 1 k := fun k hk => by rw [← f9, up2_n _ _ (Or.inr hk)]
    exact hG.land (GB.cg hG.1 (fun k k1 k2 => xo k (by omega)) (fun k k1 k2 _ => xo k (by omega))) (fun i hi => by rw [← f9, up2_c _ _ hi])
  have two : ∀ w : Int, (if w = y then (if y = 0 then rdb (up2 W 1 ((x + 20).toNat) (-2)) fun V9 => rtn (1, V9) else rdb (up2 W 1 ((x + 20).toNat) (-3)) fun V10 => rtn (1, V10)) else rtn (0, W)) (b, X) → GW X := fun w hm => by
    by_cases gw : w = y
    · rw [if_pos gw] at hm
      by_cases gy : y = 0
      · rw [if_pos gy] at hm; exact up _ hm
      · rw [if_neg gy] at hm; exact up _ hm
    · rw [if_neg gw] at hm; exact no _ hm
  exact two _ hm
theorem gw_pour {x y b : Int} {V W Jm X : Nat → Nat → Int} {R Rm : Nat → Nat → Nat} (h : WR R V W) (hG : GW W) (hm : f_m_pour x y W Jm Rm (b, X)) : GW X := by
  have no : ∀ c : Int, rtn (c, W) (b, X) → GW X := fun c h => by
    simp only [rtn, Prod.mk.injEq] at h
    rw [h.2]; exact hG
  unfold f_m_pour at hm
  obtain ⟨y1, k1, -, hm⟩ := hm
  by_cases g1 : y1 = 0
  · rw [if_pos g1] at hm; exact no _ hm
  rw [if_neg g1] at hm
  have q1 := (q_mLives k1).on g1
  obtain ⟨_, -, -, hm⟩ := rdb_g hm
  obtain ⟨_, -, -, hm⟩ := rdb_g hm
  obtain ⟨y6, -, -, hm⟩ := hm
  by_cases g6 : ¬ y6 = 0
  · rw [if_pos g6] at hm
    obtain ⟨_, -, -, hm⟩ := rdb_g hm
    obtain ⟨_, -, -, hm⟩ := rdb_g hm
    obtain ⟨w, -, hm⟩ := hm
    obtain ⟨W9, f9, hm⟩ := rdb_g hm
    simp only [rtn, Prod.mk.injEq] at hm
    obtain ⟨rfl, rfl⟩ := hm
    have xo : ∀ k : Nat, k ≠ (x + 4).toNat → X 1 k = W 1 k := fun k hk => by rw [← f9, up2_n _ _ (Or.inr hk)]
    refine hG.land ⟨fun l hl hb => ?_, fun q hq => ?_⟩ (fun i hi => by rw [← f9, up2_c _ _ hi])
    · rw [xo 76 (by omega)] at hb
      by_cases e : (l : Int) = x
      · rw [e, q1.1.2.2] at hb; omega
      · rw [xo (4 + l) (by omega)]
        exact hG.1.1 l hl hb
    · rw [xo 78 (by omega), xo 79 (by omega), xo (68 + q) (by omega)]
      exact hG.1.2 q hq
  · rw [if_neg g6] at hm; exact no _ hm
theorem gw_seed {x b : Int} {W Jm X : Nat → Nat → Int} {Rm : Nat → Nat → Nat} (hG : GW W) (hm : f_m_seed x W Jm Rm (b, X)) : GW X := by
  unfold f_m_seed at hm
  obtain ⟨y1, -, -, hm⟩ := hm
  by_cases g1 : ¬ y1 = 0
  · rw [if_pos g1] at hm
    obtain ⟨W9, f9, hm⟩ := rdb_g hm
    simp only [rtn, Prod.mk.injEq] at hm
    obtain ⟨rfl, rfl⟩ := hm
    have xo : ∀ k : Nat, k ≠ 80 → X 1 k = W 1 k := fun k hk => by rw [← f9, up2_n _ _ (Or.inr hk)]
    exact hG.land (GB.cg hG.1 (fun k k1 k2 => xo k (by omega)) (fun k k1 k2 _ => xo k (by omega))) (fun i hi => by rw [← f9, up2_c _ _ hi])
  · rw [if_neg g1] at hm
    simp only [rtn, Prod.mk.injEq] at hm
    rw [hm.2]; exact hG
theorem gw_undo {b : Int} {W Jm X : Nat → Nat → Int} {Rm : Nat → Nat → Nat} (hG : GW W) (hm : f_m_undo W Jm Rm (b, X)) : GW X := by
  unfold f_m_undo at hm
  obtain ⟨y1, f1, -, hm⟩ := rdb_g hm
  by_cases g1 : ¬ y1 = 0
  · rw [if_pos g1] at hm
    obtain ⟨W9, f9, hm⟩ := rdb_g hm
    simp only [rtn, Prod.mk.injEq] at hm
    obtain ⟨rfl, rfl⟩ := hm
    have k := hG.2.resolve_left (by omega)
    have x1 : ∀ j : Nat, j < 81 → X 1 j = W 3 j := fun j hj => by rw [← f9, cpN_at hj]
    exact hG.land (GB.cg k (fun k _ k2 => x1 k (by omega)) (fun k _ k2 _ => x1 k (by omega))) (fun i hi => by rw [← f9, cpN_n hi])
  · rw [if_neg g1] at hm
    simp only [rtn, Prod.mk.injEq] at hm
    rw [hm.2]; exact hG
theorem gw_keep {W : Nat → Nat → Int} (hG : GW W) : GW (cpN (up2 W 0 53 1) 1 3 81) := by
  have x1 : cpN (up2 W 0 53 1) 1 3 81 1 = W 1 := by rw [cpN_n (by decide), up2_c _ _ (by decide)]
  have x3 : ∀ k : Nat, k < 81 → cpN (up2 W 0 53 1) 1 3 81 3 k = W 1 k := fun k hk => by rw [cpN_at hk, up2_c _ _ (by decide)]
  exact ⟨by rw [x1]; exact hG.1, Or.inr (GB.cg hG.1 (fun k _ k2 => x3 k (by omega)) (fun k _ k2 _ => x3 k (by omega)))⟩
