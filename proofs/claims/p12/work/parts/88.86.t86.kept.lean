section
-- PLANTS stay as they can be; the lists stay apart (own work)
theorem zEw.cg {N M : Nat → Int} (h : zEw N) (h1 : ∀ k : Nat, k < 20 → M k = N k) (h2 : ∀ k : Nat, 52 ≤ k → k < 60 → M k = N k) (h3 : M 76 = N 76) : zEw M := by
  obtain ⟨a, b⟩ := h
  refine ⟨fun l hl hb => ?_, fun p hp => ?_⟩
  · rw [h3] at hb
    rw [h1 l (by omega), h1 (4 + l) (by omega), h1 (8 + l) (by omega), h1 (12 + l) (by omega), h1 (16 + l) (by omega)]
    exact a l hl hb
  · rw [h2 _ (by omega) (by omega)]
    exact b p hp
/-- one PLANT changes -/
theorem zEw.one {N M : Nat → Int} (h : zEw N) {l : Nat} (h1 : ∀ q : Nat, q < 4 → q ≠ l → M q = N q ∧ M (4 + q) = N (4 + q) ∧ M (8 + q) = N (8 + q) ∧ M (12 + q) = N (12 + q) ∧ M (16 + q) = N (16 + q) ∧ bt (M 76) (q : Int) = bt (N 76) (q : Int)) (h2 : ∀ k : Nat, 52 ≤ k → k < 60 → M k = N k) (h3 : 4 ≤ M l ∧ M (4 + l) ≤ M l ∧ 1 ≤ M (8 + l) ∧ (M (12 + l) = 0 ∨ M (16 + l) = 0)) : zEw M := by
  obtain ⟨a, b⟩ := h
  refine ⟨fun q hq hb => ?_, fun p hp => ?_⟩
  · by_cases e : q = l
    · subst e; exact h3
    · obtain ⟨c1, c2, c3, c4, c5, c6⟩ := h1 q hq e
      rw [c6] at hb
      rw [c1, c2, c3, c4, c5]
      exact a q hq hb
  · rw [h2 _ (by omega) (by omega)]
    exact b p hp
/-- now and kept -/
def zEx (W : Nat → Nat → Int) : Prop := zEw (W 1) ∧ (W 0 53 = 0 ∨ zEw (W 3))
theorem zEx.keep {W X : Nat → Nat → Int} (h : zEx W) (m1 : ∀ k : Nat, k < 81 → X 1 k = W 1 k) (m3 : X 3 = W 3) (m5 : X 0 53 = W 0 53) : zEx X := by
  obtain ⟨a, b⟩ := h
  refine ⟨a.cg (fun k h2 => m1 k (by omega)) (fun k _ h2 => m1 k (by omega)) (m1 76 (by decide)), ?_⟩
  rw [m5, m3]
  exact b
theorem zEx.land {W X : Nat → Nat → Int} (h : zEx W) (h1 : zEw (X 1)) (hm : ∀ i : Nat, i ≠ 1 → X i = W i) : zEx X := by
  refine ⟨h1, ?_⟩
  rw [hm 0 (by decide), hm 3 (by decide)]
  exact h.2
theorem ex_plant {x p w d b : Int} {V W Jm X : Nat → Nat → Int} {R Rm : Nat → Nat → Nat} (h : WR R V W) (hG : zEx W) (hm : f_m_plant x p w d W Jm Rm (b, X)) : zEx X := by
  have no : ∀ c : Int, rtn (c, W) (b, X) → zEx X := fun c h => by
    simp only [rtn, Prod.mk.injEq] at h
    rw [h.2]; exact hG
  unfold f_m_plant at hm
  obtain ⟨y1, k1, -, hm⟩ := hm
  by_cases g1 : y1 = 0
  · rw [if_pos g1] at hm; exact no _ hm
  rw [if_neg g1] at hm
  have g1 := (q_mIn k1).on g1
  obtain ⟨y5, k5, -, hm⟩ := hm
  by_cases g5 : y5 = 0
  · rw [if_pos g5] at hm; exact no _ hm
  rw [if_neg g5] at hm
  have g5 := (q_mIn k5).on g5
  obtain ⟨y8, k8, -, hm⟩ := hm
  by_cases g8 : y8 = 0
  · rw [if_pos g8] at hm; exact no _ hm
  rw [if_neg g8] at hm
  have g8 := (q_mIn k8).on g8
  obtain ⟨y12, k12, -, hm⟩ := hm
  by_cases g12 : y12 = 0
  · rw [if_neg (fun hh => hh g12)] at hm; exact no _ hm
  rw [if_pos g12] at hm
  have g12 := (q_mIn k12).on g12
  clear k1 k5 k8 k12
  obtain ⟨n, rfl⟩ : ∃ n : Nat, x = (n : Int) := ⟨x.toNat, by omega⟩
  have hn : n < 4 := by omega
  obtain ⟨s, f1, hm⟩ := rdb_g hm
  obtain ⟨s2, f2, hm⟩ := rdb_g hm
  obtain ⟨s3, f3, hm⟩ := rdb_g hm
  obtain ⟨W1, f4, hm⟩ := rdb_g hm
  obtain ⟨s5, f5, hm⟩ := rdb_g hm
  obtain ⟨s6, f6, hm⟩ := rdb_g hm
  obtain ⟨s7, f7, hm⟩ := rdb_g hm
  obtain ⟨s8, f8, hm⟩ := rdb_g hm
  obtain ⟨W2, f9, hm⟩ := rdb_g hm
  obtain ⟨W3, f10, hm⟩ := rdb_g hm
  obtain ⟨W4, f11, hm⟩ := rdb_g hm
  obtain ⟨W5, f12, hm⟩ := rdb_g hm
  obtain ⟨W6, f13, hm⟩ := rdb_g hm
  obtain ⟨W7, f14, hm⟩ := rdb_g hm
  obtain ⟨W8, f15, hm⟩ := rdb_g hm
  obtain ⟨-, m2, m3, m4⟩ := q_mFill rfl hm
  have r76 := h.1.1.2.2.2.2.2.1
  have o76 := bt_or (s := W 1 76) (p := n) ⟨r76.1, by omega⟩ ⟨by omega, by omega⟩
  have w8 : ∀ i : Nat, i ≠ 1 → W8 i = W i := fun i hi => by rw [← f15, up2_c _ _ hi, ← f14, up2_c _ _ hi, ← f13, up2_c _ _ hi, ← f12, up2_c _ _ hi, ← f11, up2_c _ _ hi, ← f10, up2_c _ _ hi, ← f9, up2_c _ _ hi, ← f4, up2_c _ _ hi]
  have e4 : ((n : Int) + 4).toNat = 4 + n := by omega
  have e8 : ((n : Int) + 8).toNat = 8 + n := by omega
  have e12 : ((n : Int) + 12).toNat = 12 + n := by omega
  have e16 : ((n : Int) + 16).toNat = 16 + n := by omega
  have e20 : ((n : Int) + 20).toNat = 20 + n := by omega
  have r8 : W8 1 = up1 (up1 (up1 (up1 (up1 (up1 (up1 (up1 (W 1) 76 s3) 77 s8) n p) (4 + n) w) (8 + n) d) (12 + n) 0) (16 + n) 0) (20 + n) (-2) := by
    rw [← f15, up2_row, ← f14, up2_row, ← f13, up2_row, ← f12, up2_row, ← f11, up2_row, ← f10, up2_row, ← f9, up2_row, ← f4, up2_row, e4, e8, e12, e16, e20, Int.toNat_natCast]
  have x76 : X 1 76 = iOr (W 1 76) (iShl 1 n) := by
    rw [m4 76 (by omega), r8, up1_of (by omega), up1_of (by omega), up1_of (by omega), up1_of (by omega), up1_of (by omega), up1_of (by omega), up1_of (by omega), up1_at, ← f3, ← f2, ← f1]
  have xo : ∀ k : Nat, k < 81 → k ≠ n → k ≠ 4 + n → k ≠ 8 + n → k ≠ 12 + n → k ≠ 16 + n → k ≠ 20 + n → ¬ (24 + 7 * n ≤ k ∧ k < 31 + 7 * n) → k ≠ 76 → k ≠ 77 → X 1 k = W 1 k := fun k _ k1 k2 k3 k4 k5 k6 k7 k8 k9 => by
    rw [m4 k k7, r8, up1_of k6, up1_of k5, up1_of k4, up1_of k3, up1_of k2, up1_of k1, up1_of k9, up1_of k8]
  have xn : X 1 n = p := by rw [m4 n (by omega), r8, up1_of (by omega), up1_of (by omega), up1_of (by omega), up1_of (by omega), up1_of (by omega), up1_at]
  have x4 : X 1 (4 + n) = w := by rw [m4 _ (by omega), r8, up1_of (by omega), up1_of (by omega), up1_of (by omega), up1_of (by omega), up1_at]
  have x8 : X 1 (8 + n) = d := by rw [m4 _ (by omega), r8, up1_of (by omega), up1_of (by omega), up1_of (by omega), up1_at]
  have x12 : X 1 (12 + n) = 0 := by rw [m4 _ (by omega), r8, up1_of (by omega), up1_of (by omega), up1_at]
  refine hG.land (hG.1.one (l := n) (fun q hq hqn => ⟨?_, ?_, ?_, ?_, ?_, ?_⟩) (fun k k1 k2 => ?_) ⟨by omega, by omega, by omega, Or.inl x12⟩) (fun i hi => by rw [m2 i hi, w8 i hi])
  · exact xo q (by omega) (by omega) (by omega) (by omega) (by omega) (by omega) (by omega) (by omega) (by omega) (by omega)
  · exact xo _ (by omega) (by omega) (by omega) (by omega) (by omega) (by omega) (by omega) (by omega) (by omega) (by omega)
  · exact xo _ (by omega) (by omega) (by omega) (by omega) (by omega) (by omega) (by omega) (by omega) (by omega) (by omega)
  · exact xo _ (by omega) (by omega) (by omega) (by omega) (by omega) (by omega) (by omega) (by omega) (by omega) (by omega)
  · exact xo _ (by omega) (by omega) (by omega) (by omega) (by omega) (by omega) (by omega) (by omega) (by omega) (by omega)
  · rw [x76, o76.2 q ⟨by omega, by omega⟩, if_neg (by omega)]
  · exact xo k (by omega) (by omega) (by omega) (by omega) (by omega) (by omega) (by omega) (by omega) (by omega) (by omega)
theorem ex_person {x k t b : Int} {V W Jm X : Nat → Nat → Int} {R Rm : Nat → Nat → Nat} (h : WR R V W) (hG : zEx W) (hm : f_m_person x k t W Jm Rm (b, X)) : zEx X := by
  have no : ∀ c : Int, rtn (c, W) (b, X) → zEx X := fun c h => by
    simp only [rtn, Prod.mk.injEq] at h
    rw [h.2]; exact hG
  unfold f_m_person at hm
  obtain ⟨y1, k1, -, hm⟩ := hm
  by_cases g1 : y1 = 0
  · rw [if_pos g1] at hm; exact no _ hm
  rw [if_neg g1] at hm
  have g1 := (q_mIn k1).on g1
  obtain ⟨y5, k5, -, hm⟩ := hm
  by_cases g5 : y5 = 0
  · rw [if_pos g5] at hm; exact no _ hm
  rw [if_neg g5] at hm
  have g5 := (q_mIn k5).on g5
  obtain ⟨y8, k8, -, hm⟩ := hm
  by_cases g8 : y8 = 0
  · rw [if_neg (fun hh => hh g8)] at hm; exact no _ hm
  rw [if_pos g8] at hm
  clear k1 k5 k8
  obtain ⟨n, rfl⟩ : ∃ n : Nat, x = (n : Int) := ⟨x.toNat, by omega⟩
  have hn : n < 8 := by omega
  obtain ⟨s, f1, hm⟩ := rdb_g hm
  obtain ⟨s2, f2, hm⟩ := rdb_g hm
  obtain ⟨s3, f3, hm⟩ := rdb_g hm
  obtain ⟨W1, f4, hm⟩ := rdb_g hm
  obtain ⟨W2, f5, hm⟩ := rdb_g hm
  obtain ⟨W3, f6, hm⟩ := rdb_g hm
  obtain ⟨W4, f7, hm⟩ := rdb_g hm
  simp only [rtn, Prod.mk.injEq] at hm
  obtain ⟨-, hX⟩ := hm
  have e52 : ((n : Int) + 52).toNat = 52 + n := by omega
  have e60 : ((n : Int) + 60).toNat = 60 + n := by omega
  have e68 : ((n : Int) + 68).toNat = 68 + n := by omega
  have xr : X 1 = up1 (up1 (up1 (up1 (W 1) 78 s3) (52 + n) k) (60 + n) t) (68 + n) 0 := by
    rw [hX, ← f7, up2_row, ← f6, up2_row, ← f5, up2_row, ← f4, up2_row, e52, e60, e68]
  have xo : ∀ k : Nat, k ≠ 52 + n → k ≠ 60 + n → k ≠ 68 + n → k ≠ 78 → X 1 k = W 1 k := fun k k1 k2 k3 k4 => by
    rw [xr, up1_of k3, up1_of k2, up1_of k1, up1_of k4]
  have x52 : X 1 (52 + n) = k := by rw [xr, up1_of (by omega), up1_of (by omega), up1_at]
  refine hG.land ⟨fun l hl hb => ?_, fun q hq => ?_⟩ (fun i hi => by rw [hX, ← f7, up2_c _ _ hi, ← f6, up2_c _ _ hi, ← f5, up2_c _ _ hi, ← f4, up2_c _ _ hi])
  · rw [xo 76 (by omega) (by omega) (by omega) (by decide)] at hb
    rw [xo l (by omega) (by omega) (by omega) (by omega), xo (4 + l) (by omega) (by omega) (by omega) (by omega), xo (8 + l) (by omega) (by omega) (by omega) (by omega), xo (12 + l) (by omega) (by omega) (by omega) (by omega), xo (16 + l) (by omega) (by omega) (by omega) (by omega)]
    exact hG.1.1 l hl hb
  · by_cases e : q = n
    · rw [e, x52]; exact g5
    · rw [xo (52 + q) (by omega) (by omega) (by omega) (by omega)]
      exact hG.1.2 q hq
theorem ex_card {x y b : Int} {V W Jm X : Nat → Nat → Int} {R Rm : Nat → Nat → Nat} (h : WR R V W) (hG : zEx W) (hm : f_m_card x y W Jm Rm (b, X)) : zEx X := by
  have no : ∀ c : Int, rtn (c, W) (b, X) → zEx X := fun c h => by
    simp only [rtn, Prod.mk.injEq] at h
    rw [h.2]; exact hG
  unfold f_m_card at hm
  obtain ⟨y1, k1, -, hm⟩ := hm
  by_cases g1 : y1 = 0
  · rw [if_pos g1] at hm; exact no _ hm
  rw [if_neg g1] at hm
  have q1 := (q_mPlant k1).on g1
  obtain ⟨z4, e4, hm⟩ := rdb_g hm
  have hm := jnk_if hm
  have up : ∀ v : Int, (rdb (up2 W 1 ((x + 20).toNat) v) fun V9 => rtn (1, V9)) (b, X) → zEx X := fun v hm => by
    obtain ⟨W9, f9, hm⟩ := rdb_g hm
    simp only [rtn, Prod.mk.injEq] at hm
    obtain ⟨-, hX⟩ := hm
    have xo : ∀ k : Nat, k ≠ (x + 20).toNat → X 1 k = W 1 k := fun k hk => by rw [hX, ← f9, up2_n _ _ (Or.inr hk)]
    exact hG.land (hG.1.cg (fun k k1 => xo k (by omega)) (fun k k1 k2 => xo k (by omega)) (xo 76 (by omega))) (fun i hi => by rw [hX, ← f9, up2_c _ _ hi])
  have two : ∀ w : Int, (if w = y then (if y = 0 then rdb (up2 W 1 ((x + 20).toNat) (-2)) fun V9 => rtn (1, V9) else rdb (up2 W 1 ((x + 20).toNat) (-3)) fun V10 => rtn (1, V10)) else rtn (0, W)) (b, X) → zEx X := fun w hm => by
    by_cases gw : w = y
    · rw [if_pos gw] at hm
      by_cases gy : y = 0
      · rw [if_pos gy] at hm; exact up _ hm
      · rw [if_neg gy] at hm; exact up _ hm
    · rw [if_neg gw] at hm; exact no _ hm
  exact two _ hm
theorem ex_pour {x y b : Int} {V W Jm X : Nat → Nat → Int} {R Rm : Nat → Nat → Nat} (h : WR R V W) (hG : zEx W) (hm : f_m_pour x y W Jm Rm (b, X)) : zEx X := by
  have no : ∀ c : Int, rtn (c, W) (b, X) → zEx X := fun c h => by
    simp only [rtn, Prod.mk.injEq] at h
    rw [h.2]; exact hG
  unfold f_m_pour at hm
  obtain ⟨y1, k1, -, hm⟩ := hm
  by_cases g1 : y1 = 0
  · rw [if_pos g1] at hm; exact no _ hm
  rw [if_neg g1] at hm
  have q1 := (q_mLives k1).on g1
  obtain ⟨_, -, -, hm⟩ := rdb_g hm
  obtain ⟨_, -, -, hm⟩ := rdb_g hm
  obtain ⟨y6, -, -, hm⟩ := hm
  by_cases g6 : ¬ y6 = 0
  · rw [if_pos g6] at hm
    obtain ⟨n, rfl⟩ : ∃ n : Nat, x = (n : Int) := ⟨x.toNat, by omega⟩
    obtain ⟨z9, e9, -, hm⟩ := rdb_g hm
    rw [Int.toNat_natCast] at e9
    obtain ⟨_, -, -, hm⟩ := rdb_g hm
    obtain ⟨w, kw, hm⟩ := hm
    have kw := q_min kw
    obtain ⟨W9, f9, hm⟩ := rdb_g hm
    simp only [rtn, Prod.mk.injEq] at hm
    obtain ⟨-, hX⟩ := hm
    rw [show ((n : Int) + 4).toNat = 4 + n by omega] at f9
    have xo : ∀ k : Nat, k ≠ 4 + n → X 1 k = W 1 k := fun k hk => by rw [hX, ← f9, up2_n _ _ (Or.inr hk)]
    have x4 : X 1 (4 + n) = w := by rw [hX, ← f9, up2_s]
    have o := hG.1.1 n (by omega) q1.1.2.2
    refine hG.land (hG.1.one (l := n) (fun q hq hqn => ⟨xo _ (by omega), xo _ (by omega), xo _ (by omega), xo _ (by omega), xo _ (by omega), by rw [xo 76 (by omega)]⟩) (fun k k1 k2 => xo k (by omega)) ?_) (fun i hi => by rw [hX, ← f9, up2_c _ _ hi])
    rw [xo n (by omega), x4, xo (8 + n) (by omega), xo (12 + n) (by omega), xo (16 + n) (by omega)]
    exact ⟨o.1, by omega, o.2.2⟩
  · rw [if_neg g6] at hm; exact no _ hm
theorem ex_seed {x b : Int} {W Jm X : Nat → Nat → Int} {Rm : Nat → Nat → Nat} (hG : zEx W) (hm : f_m_seed x W Jm Rm (b, X)) : zEx X := by
  unfold f_m_seed at hm
  obtain ⟨y1, -, -, hm⟩ := hm
  by_cases g1 : ¬ y1 = 0
  · rw [if_pos g1] at hm
    obtain ⟨W9, f9, hm⟩ := rdb_g hm
    simp only [rtn, Prod.mk.injEq] at hm
    obtain ⟨-, hX⟩ := hm
    have xo : ∀ k : Nat, k ≠ 80 → X 1 k = W 1 k := fun k hk => by rw [hX, ← f9, up2_n _ _ (Or.inr hk)]
    exact hG.land (hG.1.cg (fun k k1 => xo k (by omega)) (fun k k1 k2 => xo k (by omega)) (xo 76 (by omega))) (fun i hi => by rw [hX, ← f9, up2_c _ _ hi])
  · rw [if_neg g1] at hm
    simp only [rtn, Prod.mk.injEq] at hm
    rw [hm.2]; exact hG
theorem ex_undo {b : Int} {W Jm X : Nat → Nat → Int} {Rm : Nat → Nat → Nat} (hG : zEx W) (hm : f_m_undo W Jm Rm (b, X)) : zEx X := by
  unfold f_m_undo at hm
  obtain ⟨y1, f1, -, hm⟩ := rdb_g hm
  by_cases g1 : ¬ y1 = 0
  · rw [if_pos g1] at hm
    obtain ⟨W9, f9, hm⟩ := rdb_g hm
    simp only [rtn, Prod.mk.injEq] at hm
    obtain ⟨-, hX⟩ := hm
    have k := hG.2.resolve_left (by omega)
    have x1 : ∀ j : Nat, j < 81 → X 1 j = W 3 j := fun j hj => by rw [hX, ← f9, cpN_at hj]
    exact hG.land (k.cg (fun k k2 => x1 k (by omega)) (fun k _ k2 => x1 k (by omega)) (x1 76 (by decide))) (fun i hi => by rw [hX, ← f9, cpN_n hi])
  · rw [if_neg g1] at hm
    simp only [rtn, Prod.mk.injEq] at hm
    rw [hm.2]; exact hG
theorem ex_keep {W : Nat → Nat → Int} (hG : zEx W) : zEx (cpN (up2 W 0 53 1) 1 3 81) := by
  have x1 : cpN (up2 W 0 53 1) 1 3 81 1 = W 1 := by rw [cpN_n (by decide), up2_c _ _ (by decide)]
  have x3 : ∀ k : Nat, k < 81 → cpN (up2 W 0 53 1) 1 3 81 3 k = W 1 k := fun k hk => by rw [cpN_at hk, up2_c _ _ (by decide)]
  exact ⟨by rw [x1]; exact hG.1, Or.inr (hG.1.cg (fun k k2 => x3 k (by omega)) (fun k _ k2 => x3 k (by omega)) (x3 76 (by decide)))⟩
theorem ew_waters {p l : Nat} {V J X : Nat → Nat → Int} {R : Nat → Nat → Nat} (hp : p < 8) (hl : l < 4) (h76 : bt (V 1 76) l = 1) (hG : zEw (V 1)) (h : f_m_waters (p : Int) (l : Int) V J R X) : zEw (X 1) := by
  unfold f_m_waters at h
  obtain ⟨g, V1, -, F1, rg, h⟩ := h
  have v1 : V1 1 = V 1 := F1.rw 1 (by decide) (by decide)
  obtain ⟨_, -, -, h⟩ := rdb_g h
  obtain ⟨z3, e3, -, h⟩ := rdb_g h
  rw [Int.toNat_natCast, v1] at e3
  obtain ⟨w, kw, h⟩ := h
  have kw := q_min kw
  obtain ⟨V6, e6, h⟩ := rdb_g h
  obtain ⟨z7, e7, h⟩ := rdb_g h
  obtain ⟨z8, e8, h⟩ := rdb_g h
  obtain ⟨V9, e9, h⟩ := rdb_g h
  obtain ⟨_, -, h⟩ := rdb_g h
  obtain ⟨_, -, h⟩ := rdb_g h
  obtain ⟨V12, e12, h⟩ := rdb_g h
  obtain ⟨_, -, h⟩ := rdb_g h
  obtain ⟨_, -, h⟩ := rdb_g h
  obtain ⟨_, -, h⟩ := rdb_g h
  obtain ⟨V16, e16, h⟩ := rdb_g h
  obtain ⟨z17, e17, h⟩ := rdb_g h
  obtain ⟨z18, e18, h⟩ := rdb_g h
  obtain ⟨V19, e19, h⟩ := rdb_g h
  rw [show ((l : Int) + 4).toNat = 4 + l by omega] at e6
  rw [show ((p : Int) + 68).toNat = 68 + p by omega] at e7 e9
  have v61 : V6 1 = up1 (V 1) (4 + l) w := by rw [← e6, up2_row, v1]
  have r1 : V19 1 = up1 (up1 (V 1) (4 + l) w) (68 + p) z8 := by rw [← e19, up2_c _ _ (by decide), ← e16, up2_c _ _ (by decide), ← e12, up2_c _ _ (by decide), ← e9, up2_row, v61]
  have o := hG.1 l hl h76
  have fin : ∀ X2 : Nat → Nat → Int, (∀ k : Nat, k ≠ 20 + l → X2 1 k = V19 1 k) → zEw (X2 1) := fun X2 hX => by
    have n : ∀ k : Nat, k ≠ 4 + l → k ≠ 68 + p → k ≠ 20 + l → X2 1 k = V 1 k := fun k k1 k2 k3 => by rw [hX k k3, r1, up1_of k2, up1_of k1]
    have n4 : X2 1 (4 + l) = w := by rw [hX _ (by omega), r1, up1_of (by omega), up1_at]
    refine hG.one (l := l) (fun q hq hqn => ⟨n _ (by omega) (by omega) (by omega), n _ (by omega) (by omega) (by omega), n _ (by omega) (by omega) (by omega), n _ (by omega) (by omega) (by omega), n _ (by omega) (by omega) (by omega), by rw [n 76 (by omega) (by omega) (by omega)]⟩) (fun k k1 k2 => n k (by omega) (by omega) (by omega)) ?_
    rw [n l (by omega) (by omega) (by omega), n4, n (8 + l) (by omega) (by omega) (by omega), n (12 + l) (by omega) (by omega) (by omega), n (16 + l) (by omega) (by omega) (by omega)]
    exact ⟨o.1, by omega, o.2.2⟩
  by_cases g1 : g ≤ 0
  · rw [if_pos g1] at h
    have h : X = V19 := h
    rw [h]; exact fin V19 (fun _ _ => rfl)
  · rw [if_neg g1] at h
    obtain ⟨z21, -, h⟩ := rdb_g h
    by_cases g2 : z21 = (-2)
    · rw [if_pos g2] at h
      have h : X = V19 := h
      rw [h]; exact fin V19 (fun _ _ => rfl)
    · rw [if_neg g2] at h
      obtain ⟨_, -, h⟩ := rdb_g h
      obtain ⟨V24, e24, h⟩ := rdb_g h
      have h : X = V24 := h
      rw [h]
      exact fin V24 (fun k hk => by rw [← e24, up2_n _ _ (Or.inr (by omega))])
end
section
-- comes and can leave the lists alone; what the class's bounds give (own work)
theorem r_fillO {x : Int} {V J U J2 : Nat → Nat → Int} {R R2 : Nat → Nat → Nat} (h : f_s_fillO x V J R (U, J2, R2)) : R2 = R := by
  unfold f_s_fillO at h
  have k := lop2_k (fun (_ : Int) (_ : Nat → Nat → Int) => True) (fun r : xS => r.2.2 = R) (fun rc hrc z Y _ r h => by
    by_cases g : (13 : Int) ≤ z
    · rw [if_pos g] at h
      have h : r = (V, Y, R) := h
      rw [h]
    · rw [if_neg g] at h
      obtain ⟨Y2, -, h⟩ := rdb_g h
      exact hrc _ _ trivial _ h) _ _ _ trivial _ h
  exact k
set_option maxRecDepth 100000 in
theorem r_fillOdds {x a : Int} {V J U J2 : Nat → Nat → Int} {R R2 : Nat → Nat → Nat} (h : f_s_fillOdds x V J R (a, (U, J2, R2))) : R2 = R := by
  unfold f_s_fillOdds at h
  obtain ⟨V1, J1, R1, h1, -, h⟩ := h
  have e1 := r_fillO h1
  obtain ⟨J3, -, h⟩ := rdb_g h
  have k := lop2_k (fun (_ : Int) (_ : Nat → Nat → Int) => True) (fun r : Int × xS => r.2.2.2 = R1) (fun rc hrc z Y _ r h => by
    by_cases g : x ≤ z
    · rw [if_pos g] at h
      have h : r = (1, (V1, Y, R1)) := h
      rw [h]
    · rw [if_neg g] at h
      obtain ⟨z1, -, h⟩ := h
      obtain ⟨z2, -, -, h⟩ := h
      by_cases g2 : ¬ z2 = 0
      · rw [if_pos g2] at h
        exact lop2_k (fun (_ : Int) (_ : Nat → Nat → Int) => True) (fun r : Int × xS => r.2.2.2 = R1) (fun rc2 hrc2 z5 Y5 _ r h => by
          by_cases g5 : z5 < 0
          · rw [if_pos g5] at h
            exact hrc _ _ trivial _ h
          · rw [if_neg g5] at h
            have h := jnk_if h
            obtain ⟨_, -, h⟩ := rdb_g h
            obtain ⟨_, -, h⟩ := rdb_g h
            obtain ⟨_, -, h⟩ := rdb_g h
            obtain ⟨_, -, h⟩ := rdb_g h
            obtain ⟨_, -, h⟩ := rdb_g h
            exact hrc2 _ _ trivial _ h) _ _ _ trivial _ h
      · rw [if_neg g2] at h
        have h : r = (0, (V1, Y, R1)) := h
        rw [h]) _ _ _ trivial _ h
  rw [← e1]
  exact k
theorem r98_comes {x y w a : Int} {V V2 J J2 : Nat → Nat → Int} {R R2 : Nat → Nat → Nat} (hx : f_s_comes x y w V J R (a, (V2, J2, R2))) : R2 98 = R 98 := by
  have no : ∀ c : Int, rtn (c, (V, J, R)) (a, (V2, J2, R2)) → R2 98 = R 98 := fun c hx => by
    simp only [rtn, Prod.mk.injEq] at hx
    rw [hx.2.2.2]
  unfold f_s_comes at hx
  obtain ⟨z1, h1, -, hx⟩ := hx
  by_cases g1 : z1 = 0
  · rw [if_pos g1] at hx; exact no _ hx
  rw [if_neg g1] at hx
  obtain ⟨z4, h4, -, hx⟩ := hx
  by_cases g4 : z4 = 0
  · rw [if_pos g4] at hx; exact no _ hx
  rw [if_neg g4] at hx
  obtain ⟨z7, h7, -, hx⟩ := hx
  by_cases g7 : z7 = 0
  · rw [if_neg (fun hh => hh g7)] at hx; exact no _ hx
  rw [if_pos g7] at hx
  obtain ⟨z10, e10, -, hx⟩ := rdb_g hx
  by_cases g10 : x ≤ z10
  · rw [if_pos g10] at hx
    obtain ⟨z12, V12, J12, R12, h12, -, -, hx⟩ := hx
    have e := r_fillOdds h12
    obtain ⟨V13, -, hx⟩ := rdb_g hx
    by_cases g12 : z12 = 0
    · rw [if_pos g12] at hx
      simp only [rtn, Prod.mk.injEq] at hx
      rw [hx.2.2.2, e]
    · rw [if_neg g12] at hx
      obtain ⟨_, -, hx⟩ := rdb_g hx
      obtain ⟨_, -, hx⟩ := hx
      obtain ⟨_, -, hx⟩ := hx
      simp only [rtn, Prod.mk.injEq] at hx
      rw [hx.2.2.2, e]
  · rw [if_neg g10] at hx; exact no _ hx
set_option maxRecDepth 100000 in
theorem r98_can {x y u w a : Int} {V V2 J J2 : Nat → Nat → Int} {R R2 : Nat → Nat → Nat} (hx : f_s_can x y u w V J R (a, (V2, J2, R2))) : R2 98 = R 98 := by
  have no : ∀ c : Int, rtn (c, (V, J, R)) (a, (V2, J2, R2)) → R2 98 = R 98 := fun c hx => by
    simp only [rtn, Prod.mk.injEq] at hx
    rw [hx.2.2.2]
  unfold f_s_can at hx
  obtain ⟨z1, h1, -, hx⟩ := hx
  by_cases g1 : z1 = 0
  · rw [if_pos g1] at hx; exact no _ hx
  rw [if_neg g1] at hx
  obtain ⟨z4, h4, -, hx⟩ := hx
  by_cases g4 : z4 = 0
  · rw [if_neg (fun hh => hh g4)] at hx; exact no _ hx
  rw [if_pos g4] at hx
  obtain ⟨z7, h7, -, hx⟩ := hx
  by_cases g7 : z7 = 0
  · rw [if_pos g7] at hx; exact no _ hx
  rw [if_neg g7] at hx
  obtain ⟨z8, h8, -, hx⟩ := hx
  by_cases g8 : z8 = 0
  · rw [if_pos g8] at hx; exact no _ hx
  rw [if_neg g8] at hx
  obtain ⟨z10, e10, -, hx⟩ := rdb_g hx
  by_cases g10 : x ≤ z10
  · rw [if_pos g10] at hx
    obtain ⟨z12, V12, J12, R12, h12, -, -, hx⟩ := hx
    have e := r_fillOdds h12
    obtain ⟨V13, -, hx⟩ := rdb_g hx
    by_cases g12 : z12 = 0
    · rw [if_neg (fun hh => hh g12)] at hx
      simp only [rtn, Prod.mk.injEq] at hx
      rw [hx.2.2.2, e]
    · rw [if_pos g12] at hx
      have k := lop2_k (fun (_ _ : Int) => True) (fun r : Int × xS => r.2.2.2 = R12) (fun rc hrc z Y _ r h => by
        by_cases g : x < z
        · rw [if_pos g] at h
          obtain ⟨_, -, h⟩ := h
          obtain ⟨v, -, h⟩ := h
          have h : r = (v, (V13, J12, R12)) := h
          rw [h]
        · rw [if_neg g] at h
          obtain ⟨_, -, -, h⟩ := rdb_g h
          obtain ⟨_, -, -, h⟩ := rdb_g h
          obtain ⟨_, -, -, h⟩ := rdb_g h
          obtain ⟨_, -, -, h⟩ := rdb_g h
          obtain ⟨_, -, -, h⟩ := rdb_g h
          obtain ⟨_, -, h⟩ := rdb_g h
          obtain ⟨_, -, h⟩ := rdb_g h
          obtain ⟨_, -, h⟩ := rdb_g h
          exact hrc _ _ trivial _ h) _ _ _ trivial _ hx
      have k : R2 = R12 := k
      rw [k, e]
  · rw [if_neg g10] at hx; exact no _ hx
theorem zCr.of {R R2 : Nat → Nat → Nat} (h : zCr R) (e : R2 98 = R 98) : zCr R2 := by
  unfold zCr at h ⊢
  rw [e]
  exact h
theorem XI.lq {G V : Nat → Nat → Int} (h : XI G V) : zLq V := fun t ht => by
  have go : ∀ (i k : Nat) (x y : Int), rgX i k = (x, y) → x ≤ V i k ∧ V i k ≤ y := fun i k x y e => by
    have k := (h i k).1
    rw [e] at k
    exact k
  rcases ht with rfl | rfl | rfl | rfl | rfl | rfl
  · exact ⟨go 61 5 0 14 rfl, go 61 1 0 200 rfl, fun j => go 63 j 0 65535 rfl⟩
  · exact ⟨go 73 5 0 14 rfl, go 73 1 0 200 rfl, fun j => go 75 j 0 65535 rfl⟩
  · exact ⟨go 78 5 0 14 rfl, go 78 1 0 200 rfl, fun j => go 80 j 0 65535 rfl⟩
  · exact ⟨go 83 5 0 14 rfl, go 83 1 0 200 rfl, fun j => go 85 j 0 65535 rfl⟩
  · exact ⟨go 88 5 0 14 rfl, go 88 1 0 200 rfl, fun j => go 90 j 0 65535 rfl⟩
  · exact ⟨go 93 5 0 14 rfl, go 93 1 0 200 rfl, fun j => go 95 j 0 65535 rfl⟩
end
section
-- the week, first side: what a step leaves alone; undone (own work)
theorem fr_give {p l : Nat} {V J U : Nat → Nat → Int} {R : Nat → Nat → Nat} (hp : p < 8) (hl : l < 4) (h : f_s_giveTo 39 (p : Int) (l : Int) V J R U) : (∀ i : Nat, i ≠ 69 → i ≠ 70 → i ≠ 71 → i ≠ 39 → i ≠ 42 + 2 * l → i ≠ 50 + p → U i = V i) ∧ (∀ j : Nat, j ≠ 5 → j ≠ 6 → U 39 j = V 39 j) ∧ ∀ j : Nat, j ≠ 3 → U (50 + p) j = V (50 + p) j := by
  have same : U = V → (∀ i : Nat, i ≠ 69 → i ≠ 70 → i ≠ 71 → i ≠ 39 → i ≠ 42 + 2 * l → i ≠ 50 + p → U i = V i) ∧ (∀ j : Nat, j ≠ 5 → j ≠ 6 → U 39 j = V 39 j) ∧ ∀ j : Nat, j ≠ 3 → U (50 + p) j = V (50 + p) j := fun e => by
    rw [e]
    exact ⟨fun _ _ _ _ _ _ _ => rfl, fun _ _ _ => rfl, fun _ _ => rfl⟩
  unfold f_s_giveTo at h
  obtain ⟨z1, -, -, h⟩ := h
  by_cases g1 : z1 = 0
  · rw [if_pos g1] at h; exact same h
  rw [if_neg g1] at h
  obtain ⟨z4, -, -, h⟩ := h
  by_cases g4 : z4 = 0
  · rw [if_neg (fun hh => hh g4)] at h; exact same h
  rw [if_pos g4] at h
  obtain ⟨c7, e7, h⟩ := rdb_g h
  rw [Int.toNat_natCast] at e7
  have e7 : c7 = 42 + 2 * l := by omega
  subst e7
  obtain ⟨g, V8, -, F8, -, h⟩ := h
  obtain ⟨c9, e9, h⟩ := rdb_g h
  rw [Int.toNat_natCast] at e9
  have e9 : c9 = 50 + p := by omega
  subst e9
  obtain ⟨z10, e10, h⟩ := rdb_g h
  obtain ⟨z11, e11, h⟩ := rdb_g h
  obtain ⟨V12, e12, h⟩ := rdb_g h
  obtain ⟨z13, e13, h⟩ := rdb_g h
  obtain ⟨z14, e14, h⟩ := rdb_g h
  obtain ⟨V15, e15, h⟩ := rdb_g h
  obtain ⟨z16, e16, h⟩ := rdb_g h
  obtain ⟨z17, V17, h17, -, h⟩ := h
  unfold f_s_wetBy at h17
  obtain ⟨_, -, h17⟩ := rdb_g h17
  obtain ⟨_, -, h17⟩ := rdb_g h17
  obtain ⟨_, -, h17⟩ := rdb_g h17
  obtain ⟨w, -, h17⟩ := rdb_g h17
  obtain ⟨V16, e17, h17⟩ := rdb_g h17
  obtain ⟨_, -, h17⟩ := rdb_g h17
  simp only [rtn, Prod.mk.injEq] at h17
  obtain ⟨-, h17⟩ := h17
  obtain ⟨z18, e18, h⟩ := rdb_g h
  obtain ⟨V19, e19, h⟩ := rdb_g h
  have v8 : ∀ i : Nat, i ≠ 69 → i ≠ 70 → i ≠ 71 → V8 i = V i := fun i i1 i2 i3 => F8.row (i := i) (fun k hk => by omega)
  have fin : ∀ X : Nat → Nat → Int, (∀ i : Nat, i ≠ 42 + 2 * l → X i = V19 i) → U = X → (∀ i : Nat, i ≠ 69 → i ≠ 70 → i ≠ 71 → i ≠ 39 → i ≠ 42 + 2 * l → i ≠ 50 + p → U i = V i) ∧ (∀ j : Nat, j ≠ 5 → j ≠ 6 → U 39 j = V 39 j) ∧ ∀ j : Nat, j ≠ 3 → U (50 + p) j = V (50 + p) j := fun X hX e => by
    rw [e]
    have a : ∀ i : Nat, i ≠ 42 + 2 * l → i ≠ 39 → X i = V12 i := fun i i1 i2 => by rw [hX i i1, ← e19, up2_c _ _ i2, h17, ← e17, up2_c _ _ i1, ← e15, up2_c _ _ i2]
    refine ⟨fun i i1 i2 i3 i4 i5 i6 => by rw [a i i5 i4, ← e12, up2_c _ _ i6]; exact v8 i i1 i2 i3, fun j j1 j2 => ?_, fun j hj => ?_⟩
    · rw [hX 39 (by omega), ← e19, up2_n _ _ (Or.inr j2), h17, ← e17, up2_c _ _ (by omega), ← e15, up2_n _ _ (Or.inr j1), ← e12, up2_c _ _ (by omega), v8 39 (by decide) (by decide) (by decide)]
    · rw [a _ (by omega) (by omega), ← e12, up2_n _ _ (Or.inr hj), v8 _ (by omega) (by omega) (by omega)]
  by_cases g8 : g ≤ 0
  · rw [if_pos g8] at h
    exact fin V19 (fun _ _ => rfl) h
  rw [if_neg g8] at h
  obtain ⟨z21, -, -, h⟩ := rdb_g h
  by_cases g21 : z21 = 0
  · rw [if_pos g21] at h
    exact fin V19 (fun _ _ => rfl) h
  rw [if_neg g21] at h
  obtain ⟨_, -, h⟩ := rdb_g h
  obtain ⟨V24, e24, h⟩ := rdb_g h
  exact fin V24 (fun i hi => by rw [← e24, up2_c _ _ hi]) h
theorem fr_end {l : Nat} {V J U : Nat → Nat → Int} {R : Nat → Nat → Nat} (h : f_s_endDay 39 (l : Int) 0 V J R U) : (∀ i : Nat, i ≠ 69 → i ≠ 70 → i ≠ 71 → i ≠ 42 + 2 * l → i ≠ 43 + 2 * l → U i = V i) ∧ 0 ≤ U (42 + 2 * l) 2 := by
  unfold f_s_endDay at h
  obtain ⟨z1, V1, -, F1, -, h⟩ := h
  have h := jnk_d h
  rw [if_pos rfl] at h
  obtain ⟨c, ec, h⟩ := rdb_g h
  rw [Int.toNat_natCast] at ec
  have ec : c = 42 + 2 * l := by omega
  subst ec
  obtain ⟨V6, h6, F6, h⟩ := h
  have h : U = V6 := h
  refine ⟨fun i i1 i2 i3 i4 i5 => ?_, ?_⟩
  · rw [h, F6.row (i := i) (fun k hk => by omega), F1.row (i := i) (fun k hk => by omega)]
  · rw [h]
    unfold f_s_dryBy at h6
    obtain ⟨_, -, h6⟩ := rdb_g h6
    obtain ⟨_, -, h6⟩ := rdb_g h6
    obtain ⟨w, -, hw, h6⟩ := rdb_g h6
    obtain ⟨V4, e4, h6⟩ := rdb_g h6
    have fin : ∀ d r : Int, (rdb (up2 (up2 V4 (42 + 2 * l) 4 d) (42 + 2 * l) 5 r) fun V15 => rdb (cpV V15 (42 + 2 * l + 1) 0 (42 + 2 * l + 1) 1 6) fun V16 => rdb (V16 (42 + 2 * l) 2) fun z17 => rdb (up2 V16 (42 + 2 * l + 1) 0 z17) fun V18 => rtn V18) V6 → 0 ≤ V6 (42 + 2 * l) 2 := fun d r hh => by
      obtain ⟨V15, e15, hh⟩ := rdb_g hh
      obtain ⟨V16, e16, hh⟩ := rdb_g hh
      obtain ⟨_, -, hh⟩ := rdb_g hh
      obtain ⟨V18, e18, hh⟩ := rdb_g hh
      have hh : V6 = V18 := hh
      have e : V16 (42 + 2 * l) 2 = V15 (42 + 2 * l) 2 := by
        rw [← e16]
        unfold cpV
        rw [if_neg (by omega)]
      rw [hh, ← e18, up2_c _ _ (by omega), e, ← e15, up2_n _ _ (Or.inr (by decide)), up2_n _ _ (Or.inr (by decide)), ← e4, up2_s]
      exact hw.1
    simp only [jnk] at h6
    by_cases g : w = 0
    · rw [if_neg (fun hh => hh g)] at h6
      obtain ⟨_, -, h6⟩ := rdb_g h6
      obtain ⟨d, -, h6⟩ := rdb_g h6
      obtain ⟨V9, e9, h6⟩ := rdb_g h6
      obtain ⟨z10, -, h6⟩ := rdb_g h6
      subst e9
      by_cases g2 : w = z10
      · rw [if_neg (fun hh => hh g2)] at h6
        obtain ⟨_, -, h6⟩ := rdb_g h6
        obtain ⟨r, -, h6⟩ := rdb_g h6
        exact fin _ _ h6
      · rw [if_pos g2] at h6
        exact fin _ _ h6
    · rw [if_pos g] at h6
      obtain ⟨V9, e9, h6⟩ := rdb_g h6
      obtain ⟨z10, -, h6⟩ := rdb_g h6
      subst e9
      by_cases g2 : w = z10
      · rw [if_neg (fun hh => hh g2)] at h6
        obtain ⟨_, -, h6⟩ := rdb_g h6
        obtain ⟨r, -, h6⟩ := rdb_g h6
        exact fin _ _ h6
      · rw [if_pos g2] at h6
        exact fin _ _ h6
/-- the same landing as it is tried -/
theorem SL.rf (d : Nat) (V : Nat → Nat → Int) : SL d d V V := ⟨fun _ _ => ⟨fun _ _ => rfl, fun _ _ => rfl⟩, fun _ _ _ _ => rfl, fun _ _ _ => rfl⟩
theorem SL.tr {d : Nat} {U V X : Nat → Nat → Int} (h : SL d d U V) (k : SL d d X U) : SL d d X V := ⟨fun l hl => ⟨fun j hj => ((k.1 l hl).1 j hj).trans ((h.1 l hl).1 j hj), fun j hj => ((k.1 l hl).2 j hj).trans ((h.1 l hl).2 j hj)⟩, fun p hp j hj => (k.2.1 p hp j hj).trans (h.2.1 p hp j hj), fun j j1 j2 => (k.2.2 j j1 j2).trans (h.2.2 j j1 j2)⟩
/-- behind a step, a way below it and what undoes them: all is as it was -/
theorem fr_undo {l w : Nat} {V A B C D U : Nat → Nat → Int} {s g : Int} {c3 : Nat} (hl : l < 4) (hw : w < 8) (hc : 110 ≤ c3) (hg : V (50 + w) 3 = g) (hs : V 39 3 = s)
    (a1 : ∀ i : Nat, i ≤ 57 → i ≠ 39 → i ≠ 42 + 2 * l → i ≠ 43 + 2 * l → i ≠ 50 + w → A i = V i) (a2 : ∀ j : Nat, j ≠ 3 → j ≠ 5 → j ≠ 6 → A 39 j = V 39 j) (a3 : ∀ j : Nat, j ≠ 3 → A (50 + w) j = V (50 + w) j)
    (hB : SL 39 39 B A) (hC : ∀ i : Nat, i ≠ 39 → C i = B i) (c4 : ∀ j : Nat, j ≠ 3 → C 39 j = B 39 j) (c5 : C 39 3 = s)
    (d1 : ∀ i : Nat, i ≠ 42 + 2 * l → i ≠ 42 + 2 * l + 1 → D i = C i) (d2 : ∀ j : Nat, j < 8 → D (42 + 2 * l) j = V (42 + 2 * l) j) (d3 : ∀ j : Nat, j < 7 → D (42 + 2 * l + 1) j = V (42 + 2 * l + 1) j) (hU : U = up2 D (50 + w) 3 g) : SL 39 39 U V := by
  obtain ⟨b1, b2, b3⟩ := hB
  refine ⟨fun q hq => ⟨fun j hj => ?_, fun j hj => ?_⟩, fun p hp j hj => ?_, fun j j1 j2 => ?_⟩
  · rw [hU, up2_c _ _ (by omega)]
    by_cases e : q = l
    · rw [e, show 39 + 3 + 2 * l = 42 + 2 * l by omega]; exact d2 j hj
    · rw [d1 _ (by omega) (by omega), hC _ (by omega), (b1 q hq).1 j hj, a1 _ (by omega) (by omega) (by omega) (by omega) (by omega)]
  · rw [hU, up2_c _ _ (by omega)]
    by_cases e : q = l
    · rw [e, show 39 + 3 + 2 * l + 1 = 42 + 2 * l + 1 by omega]; exact d3 j hj
    · rw [d1 _ (by omega) (by omega), hC _ (by omega), (b1 q hq).2 j hj, a1 _ (by omega) (by omega) (by omega) (by omega) (by omega)]
  · by_cases e : p = w
    · rw [e, show 39 + 11 + w = 50 + w by omega]
      by_cases e3 : j = 3
      · rw [e3, hU, up2_s]; exact hg.symm
      · have k := b2 w hw j hj
        rw [show 39 + 11 + w = 50 + w by omega] at k
        rw [hU, up2_n _ _ (Or.inr e3), d1 _ (by omega) (by omega), hC _ (by omega), k, a3 j e3]
    · rw [hU, up2_c _ _ (by omega), d1 _ (by omega) (by omega), hC _ (by omega), b2 p hp j hj, a1 _ (by omega) (by omega) (by omega) (by omega) (by omega)]
  · rw [hU, up2_c _ _ (by omega), d1 39 (by omega) (by omega)]
    by_cases e3 : j = 3
    · rw [e3, c5]; exact hs.symm
    · rw [c4 j e3, b3 j j1 j2, a2 j e3 (by omega) (by omega)]
end
section
-- rows as numbers: who comes on a DAY, how many comings (own work)
def pw (m : Nat) : Nat → Nat
  | 0 => 1
  | r + 1 => (m + 1) * pw m r
theorem pw_p (m : Nat) : ∀ r : Nat, 0 < pw m r
  | 0 => Nat.one_pos
  | r + 1 => Nat.mul_pos (Nat.succ_pos m) (pw_p m r)
theorem pw_d (m c r : Nat) : (c % pw m (r + 1)) / pw m r = (c / pw m r) % (m + 1) := by
  show (c % ((m + 1) * pw m r)) / pw m r = _
  rw [Nat.mod_mul_left_div_self]
theorem pw_m (m c r : Nat) : (c % pw m (r + 1)) % pw m r = c % pw m r := Nat.mod_mod_of_dvd c (Nat.dvd_mul_left _ _)
theorem pw_b : ∀ m : Nat, m ≤ 3 → ∀ r : Nat, r ≤ 7 → pw m r ≤ 16384 := by decide
/-- how many come in the last r DAYS of a row -/
def cmr (m : Nat) : Nat → Nat → Nat
  | 0, _ => 0
  | r + 1, v => (if v / pw m r < m then 1 else 0) + cmr m r (v % pw m r)
theorem cmr_b (m : Nat) : ∀ r v : Nat, cmr m r v ≤ r
  | 0, _ => Nat.le_refl 0
  | r + 1, v => by
    have := cmr_b m r (v % pw m r)
    show (if v / pw m r < m then 1 else 0) + cmr m r (v % pw m r) ≤ r + 1
    split <;> omega
/-- who comes on the DAY k -/
def dgt (m c k : Nat) : Nat := (c / pw m (6 - k)) % (m + 1)
theorem q_comingIn {c m k : Nat} {r : Int} (hm : m ≤ 3) (hc : c < 2147483648) (hk : k ≤ 6) (h : f_m_comingIn (c : Int) (m : Int) (k : Int) r) : r = (dgt m c k : Int) := by
  unfold f_m_comingIn at h
  obtain ⟨b, hb, h⟩ := lop2_g h
  have key : ∀ (f j v : Nat), k ≤ j → j ≤ 6 → v = c / pw m (6 - j) → lop2 f b (j : Int) (v : Int) r → r = (dgt m c k : Int) := by
    intro f
    induction f with
    | zero => intro j v _ _ _ h; exact False.elim h
    | succ f ih =>
      intro j v hj hj6 hv h
      rw [lop2_s hb] at h
      have hvc : v ≤ c := by rw [hv]; exact Nat.div_le_self _ _
      by_cases g : (j : Int) ≤ k
      · rw [if_pos g] at h
        obtain ⟨x, ex, -, h⟩ := rdb_g h
        rw [show ((m : Int) + 1) = ((m + 1 : Nat) : Int) by omega, iRem_p (by omega) (by omega)] at ex
        have h : r = x := h
        have ej : j = k := by omega
        rw [h, ← ex, hv, ej]
        unfold dgt
        exact (Int.natCast_emod _ _).symm
      · rw [if_neg g] at h
        obtain ⟨x, ex, -, h⟩ := rdb_g h
        rw [show ((m : Int) + 1) = ((m + 1 : Nat) : Int) by omega, iDiv_p (by omega) (by omega)] at ex
        have ex : x = ((v / (m + 1) : Nat) : Int) := by rw [← ex]; exact (Int.natCast_ediv _ _).symm
        rw [ex, show ((j : Int) - 1) = ((j - 1 : Nat) : Int) by omega] at h
        refine ih (j - 1) _ (by omega) (by omega) ?_ h
        rw [hv, Nat.div_div_eq_div_mul, show 6 - (j - 1) = (6 - j) + 1 by omega]
        show c / (pw m (6 - j) * (m + 1)) = c / ((m + 1) * pw m (6 - j))
        rw [Nat.mul_comm]
  refine key 8 6 c (by omega) (Nat.le_refl _) ?_ h
  show c = c / 1
  rw [Nat.div_one]
theorem q_comings {c m : Nat} {r : Int} (hm : m ≤ 3) (hc : c < 2147483648) (h : f_m_comings (c : Int) (m : Int) r) : r = (cmr m 7 (c % pw m 7) : Int) := by
  unfold f_m_comings at h
  obtain ⟨b, hb, h⟩ := lop2_g h
  have key : ∀ (f k acc : Nat), k ≤ 7 → acc ≤ k → acc + cmr m (7 - k) (c % pw m (7 - k)) = cmr m 7 (c % pw m 7) → lop2 f b (k : Int) (acc : Int) r → r = (cmr m 7 (c % pw m 7) : Int) := by
    intro f
    induction f with
    | zero => intro k acc _ _ _ h; exact False.elim h
    | succ f ih =>
      intro k acc hk ha hs h
      rw [lop2_s hb] at h
      by_cases g : (7 : Int) ≤ k
      · rw [if_pos g] at h
        have h : r = (acc : Int) := h
        have ek : k = 7 := by omega
        subst ek
        rw [h, ← hs]
        rfl
      · rw [if_neg g] at h
        obtain ⟨d, hd, -, h⟩ := h
        have hd := q_comingIn hm hc (by omega) hd
        have step : cmr m (7 - k) (c % pw m (7 - k)) = (if dgt m c k < m then 1 else 0) + cmr m (6 - k) (c % pw m (6 - k)) := by
          rw [show 7 - k = (6 - k) + 1 by omega]
          show (if (c % pw m (6 - k + 1)) / pw m (6 - k) < m then 1 else 0) + cmr m (6 - k) ((c % pw m (6 - k + 1)) % pw m (6 - k)) = _
          rw [pw_d, pw_m]
          rfl
        rw [step] at hs
        simp only [jnk, rdb] at h
        by_cases gd : (m : Int) ≤ d
        · rw [if_pos gd] at h
          rw [if_neg (c := dgt m c k < m) (by omega)] at hs
          rw [wr_id (z := (acc : Int) + 0) ⟨by omega, by omega⟩, show ((k : Int) + 1) = ((k + 1 : Nat) : Int) by omega, show (acc : Int) + 0 = ((acc : Nat) : Int) by omega] at h
          exact ih (k + 1) acc (by omega) (by omega) (by rw [show 7 - (k + 1) = 6 - k by omega]; omega) h
        · rw [if_neg gd] at h
          rw [if_pos (c := dgt m c k < m) (by omega)] at hs
          rw [wr_id (z := (acc : Int) + 1) ⟨by omega, by omega⟩, show ((k : Int) + 1) = ((k + 1 : Nat) : Int) by omega, show (acc : Int) + 1 = ((acc + 1 : Nat) : Int) by omega] at h
          exact ih (k + 1) (acc + 1) (by omega) (by omega) (by rw [show 7 - (k + 1) = 6 - k by omega]; omega) h
  exact key 9 0 0 (by omega) (Nat.le_refl _) (by rw [Nat.zero_add]) h
end
section
-- the week: a row's way in the reference beside one step of the first side (own work)
/-- the reference's loop over the DAYS of a row -/
def wkB (l m code : Int) (J : Nat → Nat → Int) (Rr : Nat → Nat → Nat) : (Int → (Nat → Nat → Int) → (Int × (Nat → Nat → Int)) → Prop) → Int → (Nat → Nat → Int) → (Int × (Nat → Nat → Int)) → Prop :=
  fun rc286 (z285 : Int) (V286 : Nat → Nat → Int) => jnk (fun (un353 : Unit) => calR (f_m_lives l V286 J Rr) fun z354 => fct (0 ≤ z354 ∧ z354 ≤ 1) <| jnk (fun (z359 : Int) => rdb (cpN V286 2 1 81) fun V361 => rtn (z359, V361)) fun jf360 => (if z354 = 0 then jf360 ((-1)) else rdb (V286 1 ((l + 12).toNat)) fun z364 => fct (0 ≤ z364 ∧ z364 ≤ 8) <| rdb (V286 1 ((l + 16).toNat)) fun z365 => fct (0 ≤ z365 ∧ z365 ≤ 8) <| rdb (V286 1 ((l + 4).toNat)) fun z366 => fct (0 ≤ z366 ∧ z366 ≤ 24) <| jf360 z366)) fun jf353 => (if 7 ≤ z285 then jf353 (()) else calR (f_m_lives l V286 J Rr) fun z368 => fct (0 ≤ z368 ∧ z368 ≤ 1) <| (if z368 = 0 then jf353 (()) else rdb (V286 1 ((l + 12).toNat)) fun z371 => fct (0 ≤ z371 ∧ z371 ≤ 8) <| rdb (V286 1 ((l + 16).toNat)) fun z372 => fct (0 ≤ z372 ∧ z372 ≤ 8) <| calR (f_m_comingIn code m z285) fun z373 => fct (0 ≤ z373 ∧ z373 ≤ 3) <| (if m ≤ z373 then calUM 7253591811175922467340288 V286 (f_m_dries l 0 V286 J Rr) fun V375 => rdb (V375 1 79) fun z376 => rdb (wr (z376 + 1)) fun z377 => rdb (up2 V375 1 79 z377) fun V378 => rc286 (z285 + 1) V378 else rdb (V286 20 z373.toNat) fun z379 => fct (0 ≤ z379 ∧ z379 ≤ 7) <| calUM 16924998368092956267642880 V286 (f_m_waters z379 l V286 J Rr) fun V380 => calUM 7253591811175922467340288 V380 (f_m_dries l 0 V380 J Rr) fun V381 => rdb (V381 1 79) fun z382 => rdb (wr (z382 + 1)) fun z383 => rdb (up2 V381 1 79 z383) fun V384 => rc286 (z285 + 1) V384)))
/-- the tried landing on the first side, the landing on the other -/
def zRel (R : Nat → Nat → Nat) (l m d : Nat) (V W : Nat → Nat → Int) : Prop := RLz 39 V (W 1) ∧ RTx R V W ∧ bt (W 1 76) (l : Int) = 1 ∧ W 1 79 ≤ 9999 + d ∧ ∀ j : Nat, j < m → V 107 j = W 20 j ∧ (0 ≤ W 20 j ∧ W 20 j < 8) ∧ bt (W 1 78) (W 20 j) = 1
theorem zRel.liv {R : Nat → Nat → Nat} {l m d : Nat} {V W : Nat → Nat → Int} (h : zRel R l m d V W) (hl : l < 4) : ¬ dedX (V (42 + 2 * l)) ↔ ¬ bt (W 1 77) (l : Int) = 1 := by
  have k := (h.1.1 l hl).2.2.2.2.2.2.2.2.1
  rw [show 39 + 3 + 2 * l = 42 + 2 * l by omega] at k
  exact ⟨fun a b => a (k.mp b), fun a b => a (k.mpr b)⟩
theorem wk_out {l m d : Nat} {w : Int} {V W X J : Nat → Nat → Int} {R Rm : Nat → Nat → Nat} (hl : l < 4) (h : zRel R l m d V W) (hx : (calR (f_m_lives (l : Int) W J Rm) fun z354 => fct (0 ≤ z354 ∧ z354 ≤ 1) <| jnk (fun (z359 : Int) => rdb (cpN W 2 1 81) fun V361 => rtn (z359, V361)) fun jf360 => (if z354 = 0 then jf360 ((-1)) else rdb (W 1 (((l : Int) + 12).toNat)) fun z364 => fct (0 ≤ z364 ∧ z364 ≤ 8) <| rdb (W 1 (((l : Int) + 16).toNat)) fun z365 => fct (0 ≤ z365 ∧ z365 ≤ 8) <| rdb (W 1 (((l : Int) + 4).toNat)) fun z366 => fct (0 ≤ z366 ∧ z366 ≤ 24) <| jf360 z366)) (w, X)) : (dedX (V (42 + 2 * l)) → w = -1) ∧ (¬ dedX (V (42 + 2 * l)) → w = V (42 + 2 * l) 2) := by
  obtain ⟨z, hz, -, hx⟩ := hx
  have hz := q_mLives hz
  have hv := h.liv hl
  have hx := jnk_d hx
  have w2 := (h.1.1 l hl).2.2.1
  rw [show 39 + 3 + 2 * l = 42 + 2 * l by omega] at w2
  by_cases g : z = 0
  · rw [if_pos g] at hx
    simp only [rdb, rtn, Prod.mk.injEq] at hx
    refine ⟨fun _ => hx.1, fun nd => ?_⟩
    have := hv.mp nd
    exact absurd ⟨⟨by omega, by omega, h.2.2.1⟩, this⟩ (hz.off g)
  · rw [if_neg g] at hx
    obtain ⟨_, -, -, hx⟩ := rdb_g hx
    obtain ⟨_, -, -, hx⟩ := rdb_g hx
    obtain ⟨t, et, -, hx⟩ := rdb_g hx
    rw [show ((l : Int) + 4).toNat = 4 + l by omega] at et
    simp only [rdb, rtn, Prod.mk.injEq] at hx
    have q := hz.on g
    refine ⟨fun dd => absurd dd (hv.mpr q.2), fun _ => ?_⟩
    rw [hx.1, ← et, w2]
/-- dead, or the seventh DAY is over -/
theorem wk_end {l m d n : Nat} {k code w : Int} {V W X J : Nat → Nat → Int} {R Rm : Nat → Nat → Nat} (hl : l < 4) (h : zRel R l m d V W) (hc : 7 ≤ k ∨ dedX (V (42 + 2 * l))) (hx : lop2 n (wkB (l : Int) (m : Int) code J Rm) k W (w, X)) : (dedX (V (42 + 2 * l)) → w = -1) ∧ (¬ dedX (V (42 + 2 * l)) → w = V (42 + 2 * l) 2) := by
  cases n with
  | zero => exact False.elim hx
  | succ n =>
    have hx : wkB (l : Int) (m : Int) code J Rm (lop2 n (wkB (l : Int) (m : Int) code J Rm)) k W (w, X) := hx
    unfold wkB at hx
    have hx := jnk_d hx
    by_cases g : 7 ≤ k
    · rw [if_pos g] at hx
      exact wk_out hl h hx
    · rw [if_neg g] at hx
      obtain ⟨z, hz, -, hx⟩ := hx
      have hz := q_mLives hz
      have z0 : z = 0 := by
        rcases hz with ⟨-, q⟩ | ⟨q, -⟩
        · exact absurd (hc.resolve_left g) ((h.liv hl).mpr q.2)
        · exact q
      rw [if_pos z0] at hx
      exact wk_out hl h hx
/-- one DAY of a row on both sides -/
theorem wk_step {l m d n q code : Nat} {w : Int} {V A B C W X Jx Jm : Nat → Nat → Int} {R Rm : Nat → Nat → Nat} (hl : l < 4) (hm : m ≤ 3) (hd : d < 7) (hcode : code < 2147483648) (hq : dgt m code d = q) (h : zRel R l m d V W) (hliv : ¬ dedX (V (42 + 2 * l)))
    (hA : (q < m → f_s_giveTo 39 (V 107 q) (l : Int) V Jx R A) ∧ (¬ q < m → A = V)) (hA107 : A 107 = V 107) (hB : f_s_endDay 39 (l : Int) 0 A Jx R B) (hC : C = up2 B 39 3 (wr (B 39 3 + 1))) (hx : lop2 n (wkB (l : Int) (m : Int) (code : Int) Jm Rm) (d : Int) W (w, X)) :
    ∃ (n2 : Nat) (W2 : Nat → Nat → Int), zRel R l m (d + 1) C W2 ∧ lop2 n2 (wkB (l : Int) (m : Int) (code : Int) Jm Rm) ((d + 1 : Nat) : Int) W2 (w, X) := by
  cases n with
  | zero => exact False.elim hx
  | succ n =>
    have hx : wkB (l : Int) (m : Int) (code : Int) Jm Rm (lop2 n (wkB (l : Int) (m : Int) (code : Int) Jm Rm)) (d : Int) W (w, X) := hx
    have hv := h.liv hl
    obtain ⟨r1, r2, r3, r4, r5⟩ := h
    have n77 := hv.mp hliv
    unfold wkB at hx
    have hx := jnk_d hx
    rw [if_neg (by omega)] at hx
    obtain ⟨z, hz, -, hx⟩ := hx
    have hz := q_mLives hz
    have z0 : ¬ z = 0 := fun hh => hz.off hh ⟨⟨by omega, by omega, r3⟩, n77⟩
    rw [if_neg z0] at hx
    obtain ⟨_, -, -, hx⟩ := rdb_g hx
    obtain ⟨_, -, -, hx⟩ := rdb_g hx
    obtain ⟨dg, hdg, -, hx⟩ := hx
    have hdg := q_comingIn hm hcode (by omega) hdg
    rw [hq] at hdg
    subst hdg
    have fin : ∀ (A2 B2 C2 : Nat → Nat → Int), RLz 39 A (A2 1) → RTx R A A2 → A2 1 76 = W 1 76 → (¬ bt (A2 1 77) (l : Int) = 1) → A2 1 78 = W 1 78 → A2 1 79 = W 1 79 → A2 20 = W 20 → f_m_dries (l : Int) 0 A2 Jm Rm B2 → FBm 7253591811175922467340288 A2 B2 → up2 B2 1 79 (wr (B2 1 79 + 1)) = C2 → zRel R l m (d + 1) C C2 := fun A2 B2 C2 a1 a2 a3 a4 a5 a6 a7 hb F hc => by
      obtain ⟨d1, -, d3, ⟨d4, d5⟩, d6⟩ := d_endL (Or.inr (Or.inr rfl)) hl a1 a2 (by rw [a3]; exact r3) a4 hB hb
      have dr := k_dries hl hb
      have h0 := d1.2.2.2.2.2.2.2.2.1
      have d5' : B2 1 79 = W 1 79 := by rw [d5, a6]
      have b39 : B 39 3 = B2 1 79 := d1.2.2.2.1
      have e79 : wr (B2 1 79 + 1) = W 1 79 + 1 := by rw [d5']; rw [d5'] at h0; exact wr_id ⟨by omega, by omega⟩
      have c2o : ∀ k : Nat, k ≠ 79 → C2 1 k = B2 1 k := fun k hk => by rw [← hc, up2_n _ _ (Or.inr hk)]
      have c79 : C2 1 79 = W 1 79 + 1 := by rw [← hc, up2_s, e79]
      have c2r : ∀ i : Nat, i ≠ 1 → C2 i = B2 i := fun i hi => by rw [← hc, up2_c _ _ hi]
      have co : ∀ i : Nat, i ≠ 39 → C i = B i := fun i hi => by rw [hC, up2_c _ _ hi]
      have b20 : B2 20 = W 20 := by rw [F.rw 20 (by decide) (by decide)]; exact a7
      have b107 : B 107 = V 107 := by rw [d6 107 (by decide) (by decide) (by decide) (by omega) (by omega)]; exact hA107
      refine ⟨?_, ?_, ?_, ?_, fun j hj => ?_⟩
      · refine d1.cg (fun i i1 i2 => co i (by omega)) (fun k hk => c2o k (by omega)) ?_ ?_ ?_ ?_ ?_
        · rw [hC, up2_n _ _ (Or.inr (by decide))]
        · rw [hC, up2_s, b39, c79, e79]
        · rw [hC, up2_n _ _ (Or.inr (by decide)), c2o 80 (by decide)]; exact d1.2.2.2.2.1
        · rw [c79]; rw [d5'] at h0; omega
        · rw [c2o 80 (by decide)]; exact d1.2.2.2.2.2.2.2.2.2
      · exact d3.cg (fun i i1 i2 i3 => co i (by omega)) (fun i i1 i2 => c2r i (by omega))
      · rw [c2o 76 (by decide), dr 76 (by decide) (by decide), a3]; exact r3
      · rw [c79]; omega
      · rw [co 107 (by decide), b107, c2r 20 (by decide), b20, c2o 78 (by decide), d4, a5]
        exact r5 j hj
    by_cases g : q < m
    · rw [if_neg (by omega)] at hx
      obtain ⟨e1, e2, e3⟩ := r5 q g
      obtain ⟨p, ep, -, hx⟩ := rdb_g hx
      rw [Int.toNat_natCast] at ep
      obtain ⟨A2, ha, FA, hx⟩ := hx
      obtain ⟨B2, hb, FB2, hx⟩ := hx
      obtain ⟨t1, et1, hx⟩ := rdb_g hx
      obtain ⟨t2, et2, hx⟩ := rdb_g hx
      obtain ⟨C2, hc, hx⟩ := rdb_g hx
      obtain ⟨pn, hpn⟩ : ∃ pn : Nat, p = (pn : Int) := ⟨p.toNat, by omega⟩
      have hgv := hA.1 g
      rw [e1, ep, hpn] at hgv
      rw [ep, hpn] at e3
      rw [hpn] at ha
      obtain ⟨g1, -, g3, g4, g5⟩ := d_giveL (Or.inr (Or.inr rfl)) (by omega) hl r1 r2 e3 r3 n77 hgv ha
      have kw := k_waters ha
      refine ⟨n, C2, fin A2 B2 C2 g1 g3 (kw 76 (by omega) (by omega) (by omega)) (by rw [kw 77 (by omega) (by omega) (by omega)]; exact n77) g4 g5 (FA.rw 20 (by decide) (by decide)) hb FB2 (by rw [et1, et2]; exact hc), ?_⟩
      rw [show ((d + 1 : Nat) : Int) = (d : Int) + 1 by omega]
      exact hx
    · rw [if_pos (by omega)] at hx
      obtain ⟨B2, hb, FB2, hx⟩ := hx
      obtain ⟨t1, et1, hx⟩ := rdb_g hx
      obtain ⟨t2, et2, hx⟩ := rdb_g hx
      obtain ⟨C2, hc, hx⟩ := rdb_g hx
      have eA := hA.2 g
      refine ⟨n, C2, fin W B2 C2 (by rw [eA]; exact r1) (by rw [eA]; exact r2) rfl n77 rfl rfl rfl hb FB2 (by rw [et1, et2]; exact hc), ?_⟩
      rw [show ((d + 1 : Nat) : Int) = (d : Int) + 1 by omega]
      exact hx
end
section
-- the week: what a call of the search finds (own work)
/-- by every row whose last DAYS are v the reference comes to o from here -/
def zOut (R : Nat → Nat → Nat) (l m d : Nat) (V : Nat → Nat → Int) (v : Nat) (o : Int) : Prop := ∀ (Jm : Nat → Nat → Int) (Rm : Nat → Nat → Nat) (code n : Nat) (W X : Nat → Nat → Int) (w : Int), code % pw m (7 - d) = v → code < 2147483648 → zRel R l m d V W → lop2 n (wkB (l : Int) (m : Int) (code : Int) Jm Rm) (d : Int) W (w, X) → w = o
/-- what stays -/
def zFr (d : Nat) (V U : Nat → Nat → Int) : Prop := SL 39 39 U V ∧ (U 105 4 = V 105 4 ∧ U 105 5 = V 105 5) ∧ U 107 = V 107 ∧ (∀ j : Nat, j < d → U 108 j = V 108 j) ∧ (∀ i : Nat, 110 ≤ i → i < 110 + 2 * d → U i = V i) ∧ ∀ i : Nat, i < 39 ∨ (58 ≤ i ∧ i < 69) ∨ (72 ≤ i ∧ i < 105) → U i = V i
/-- what was found among the rows of D -/
def zTk (R : Nat → Nat → Nat) (l m d came : Nat) (D : Nat → Prop) (V Y : Nat → Nat → Int) : Prop := Y 105 6 ≤ V 105 6 ∧
  ((∃ b : Nat, b < pw m (7 - d) ∧ D b ∧ Y 105 6 = ((came + cmr m (7 - d) b : Nat) : Int) ∧ (∀ j : Nat, j < d → Y 109 j = V 108 j) ∧ (∀ code : Nat, code % pw m (7 - d) = b → ∀ j : Nat, d ≤ j → j < 7 → Y 109 j = (dgt m code j : Int)) ∧ 0 ≤ Y 105 7 ∧ zOut R l m d V b (Y 105 7) ∧
      ∀ v : Nat, v < pw m (7 - d) → D v → (((came + cmr m (7 - d) v : Nat) : Int) < Y 105 6 ∨ (((came + cmr m (7 - d) v : Nat) : Int) = Y 105 6 ∧ v < b)) → zOut R l m d V v (-1)) ∨
   (Y 105 6 = V 105 6 ∧ Y 105 7 = V 105 7 ∧ Y 109 = V 109 ∧ ∀ v : Nat, v < pw m (7 - d) → D v → ((came + cmr m (7 - d) v : Nat) : Int) ≤ Y 105 6 → zOut R l m d V v (-1)))
theorem zFr.rf (d : Nat) (V : Nat → Nat → Int) : zFr d V V := ⟨SL.rf 39 V, ⟨rfl, rfl⟩, rfl, fun _ _ => rfl, fun _ _ _ => rfl, fun _ _ => rfl⟩
theorem zFr.tr {d : Nat} {V U X : Nat → Nat → Int} (h : zFr d V U) (k : zFr d U X) : zFr d V X := ⟨h.1.tr k.1, ⟨k.2.1.1.trans h.2.1.1, k.2.1.2.trans h.2.1.2⟩, k.2.2.1.trans h.2.2.1, fun j hj => (k.2.2.2.1 j hj).trans (h.2.2.2.1 j hj), fun i i1 i2 => (k.2.2.2.2.1 i i1 i2).trans (h.2.2.2.2.1 i i1 i2), fun i hi => (k.2.2.2.2.2 i hi).trans (h.2.2.2.2.2 i hi)⟩
theorem zRel.fr {R : Nat → Nat → Nat} {l m d e : Nat} {V U W : Nat → Nat → Int} (h : zRel R l m d V W) (hF : zFr e V U) : zRel R l m d U W := by
  obtain ⟨r1, r2, r3, r4, r5⟩ := h
  obtain ⟨f1, f2, f3, f4, f5, f6⟩ := hF
  refine ⟨r1.copy f1 (fun _ _ => rfl), r2.cg (fun i i1 i2 i3 => f6 i (by omega)) (fun _ _ _ => rfl), r3, r4, ?_⟩
  rw [f3]
  exact r5
theorem zOut.fr {R : Nat → Nat → Nat} {l m d e : Nat} {V U : Nat → Nat → Int} {v : Nat} {o : Int} (h : zOut R l m d U v o) (hF : zFr e V U) : zOut R l m d V v o := fun Jm Rm code n W X w hv hc hz hx => h Jm Rm code n W X w hv hc (hz.fr hF) hx
theorem SL.ded {l : Nat} {U V : Nat → Nat → Int} (hl : l < 4) (h : SL 39 39 U V) : dedX (U (42 + 2 * l)) ↔ dedX (V (42 + 2 * l)) := by
  have k := (h.1 l hl).1
  rw [show 39 + 3 + 2 * l = 42 + 2 * l by omega] at k
  unfold dedX
  rw [k 0 (by decide), k 3 (by decide), k 4 (by decide), k 5 (by decide)]
/-- the calls at depth d -/
def zGo (R : Nat → Nat → Nat) (l m d : Nat) (G : Int → Int → (Nat → Nat → Int) → (Nat → Nat → Int) → (Nat → Nat → Nat) → (Nat → Nat → Int) → Prop) : Prop := ∀ (came : Nat) (V J U : Nat → Nat → Int), G (d : Int) (came : Int) V J R U → V 105 4 = (m : Int) → V 105 5 = (l : Int) → ¬ dedX (V (42 + 2 * l)) → 0 ≤ V (42 + 2 * l) 2 → (0 ≤ V 39 3 ∧ V 39 3 ≤ 20000 + d) → (came : Int) ≤ V 105 6 → came ≤ d → (∀ j : Nat, j < m → 0 ≤ V 107 j ∧ V 107 j < 8) → zFr d V U ∧ zTk R l m d came (fun _ => True) V U
theorem go7_s {R : Nat → Nat → Nat} {l m : Nat} (hl : l < 4) : zGo R l m 7 f_s_go7 := by
  intro came V J U h h4 h5 hal hwn hday hcm hcd hwho
  unfold f_s_go7 at h
  rw [h5] at h
  obtain ⟨-, h⟩ := h
  obtain ⟨c, ec, h⟩ := rdb_g h
  rw [Int.toNat_natCast] at ec
  have ec : c = 42 + 2 * l := by omega
  subst ec
  obtain ⟨w, ew, h⟩ := rdb_g h
  subst ew
  obtain ⟨V4, h, -, hU⟩ := h
  have hU : U = V4 := hU
  unfold f_s_takeRow at h
  obtain ⟨V1, e1, h⟩ := rdb_g h
  obtain ⟨V2, e2, h⟩ := rdb_g h
  obtain ⟨V3, e3, h⟩ := rdb_g h
  have h : V4 = V3 := h
  rw [h] at hU
  have a6 : U 105 6 = (came : Int) := by
    rw [hU, ← e3]
    unfold cpV
    rw [if_neg (by omega), ← e2, up2_n _ _ (Or.inr (by decide)), ← e1, up2_s]
  have a7 : U 105 7 = V (42 + 2 * l) 2 := by
    rw [hU, ← e3]
    unfold cpV
    rw [if_neg (by omega), ← e2, up2_s]
  have a9 : ∀ j : Nat, j < 7 → U 109 j = V 108 j := fun j hj => by
    rw [hU, ← e3]
    unfold cpV
    rw [if_pos ⟨rfl, by omega, by omega⟩, ← e2, up2_c _ _ (by decide), ← e1, up2_c _ _ (by decide)]
    rw [show 0 + (j - 0) = j by omega]
  have ao : ∀ i k : Nat, i ≠ 109 → (i ≠ 105 ∨ (k ≠ 6 ∧ k ≠ 7)) → U i k = V i k := fun i k i1 i2 => by
    rw [hU, ← e3]
    unfold cpV
    rw [if_neg (by omega), ← e2, up2_n _ _ (by omega), ← e1, up2_n _ _ (by omega)]
  have ar : ∀ i : Nat, i ≠ 109 → i ≠ 105 → U i = V i := fun i i1 i2 => funext fun k => ao i k i1 (Or.inl i2)
  refine ⟨⟨⟨fun q hq => ⟨fun j hj => by rw [ar _ (by omega) (by omega)], fun j hj => by rw [ar _ (by omega) (by omega)]⟩, fun p hp j hj => by rw [ar _ (by omega) (by omega)], fun j j1 j2 => by rw [ar 39 (by decide) (by decide)]⟩, ⟨ao _ _ (by decide) (Or.inr (by decide)), ao _ _ (by decide) (Or.inr (by decide))⟩, ar 107 (by decide) (by decide), fun j hj => ao _ _ (by decide) (Or.inl (by decide)), fun i i1 i2 => ar i (by omega) (by omega), fun i hi => ar i (by omega) (by omega)⟩, by rw [a6]; exact hcm, Or.inl ⟨0, pw_p m _, trivial, by rw [a6]; rfl, a9, fun code hc j j1 j2 => by omega, by rw [a7]; exact hwn, ?_, fun v hv _ hh => ?_⟩⟩
  · intro Jm Rm code n W X w hv hc hz hx
    rw [a7]
    exact (wk_end hl hz (Or.inl (by omega)) hx).2 hal
  · have v0 : v = 0 := by
      have : v < 1 := hv
      omega
    subst v0
    rw [a6] at hh
    have e : ((came + cmr m (7 - 7) 0 : Nat) : Int) = (came : Int) := rfl
    rw [e] at hh
    omega
end
section
-- the week: one place of one call of the search (own work)
theorem pw_dv (m : Nat) {r s : Nat} (h : r ≤ s) : pw m r ∣ pw m s := by
  obtain ⟨k, rfl⟩ : ∃ k : Nat, s = r + k := ⟨s - r, by omega⟩
  clear h
  induction k with
  | zero => exact Nat.dvd_refl _
  | succ k ih => exact Nat.dvd_trans ih (Nat.dvd_mul_left _ _)
/-- what is found behind a place is found here -/
theorem zTk.put {R : Nat → Nat → Nat} {l m d came q k : Nat} {D : Nat → Prop} {V Y C Z U : Nat → Nat → Int} (hd : d < 7) (hq : q ≤ m) (hT : zTk R l m d came (fun v => D v) V Y) (hDq : ∀ v : Nat, D v → q < v / pw m (6 - d)) (hk : k = came + if q < m then 1 else 0)
    (hcC : C 105 = Y 105 ∧ C 109 = Y 109 ∧ (∀ j : Nat, j < d → C 108 j = V 108 j) ∧ C 108 d = (q : Int)) (hU : U 105 = Z 105 ∧ U 109 = Z 109)
    (hup : ∀ (v : Nat) (o : Int), v < pw m (7 - d) → v / pw m (6 - d) = q → zOut R l m (d + 1) C (v % pw m (6 - d)) o → zOut R l m d V v o) (hZ : zTk R l m (d + 1) k (fun _ => True) C Z) : zTk R l m d came (fun v => D v ∨ v / pw m (6 - d) = q) V U := by
  have P := pw_p m (6 - d)
  have cmq : ∀ v : Nat, v / pw m (6 - d) = q → came + cmr m (7 - d) v = k + cmr m (7 - (d + 1)) (v % pw m (6 - d)) := fun v hv => by
    rw [show 7 - d = (6 - d) + 1 by omega, show 7 - (d + 1) = 6 - d by omega, hk]
    show came + ((if v / pw m (6 - d) < m then 1 else 0) + cmr m (6 - d) (v % pw m (6 - d))) = _
    rw [hv]
    omega
  have lt : ∀ v : Nat, v % pw m (6 - d) < pw m (7 - (d + 1)) := fun v => by
    rw [show 7 - (d + 1) = 6 - d by omega]
    exact Nat.mod_lt _ P
  obtain ⟨y1, y2⟩ := hT
  obtain ⟨z1, z2⟩ := hZ
  obtain ⟨c1, c2, c3, c4⟩ := hcC
  obtain ⟨u1, u2⟩ := hU
  rw [c1] at z1
  refine ⟨by rw [u1]; omega, ?_⟩
  rcases z2 with ⟨b, b1, -, b3, b4, b5, b6, b7, b8⟩ | ⟨n1, n2, n3, n4⟩
  · -- a row below is taken
    have eb : (q * pw m (6 - d) + b) / pw m (6 - d) = q := by
      rw [show 7 - (d + 1) = 6 - d by omega] at b1
      rw [Nat.mul_comm, Nat.mul_add_div P, Nat.div_eq_of_lt b1, Nat.add_zero]
    have em : (q * pw m (6 - d) + b) % pw m (6 - d) = b := by
      rw [show 7 - (d + 1) = 6 - d by omega] at b1
      rw [Nat.mul_comm, Nat.mul_add_mod, Nat.mod_eq_of_lt b1]
    have lb : q * pw m (6 - d) + b < pw m (7 - d) := by
      rw [show 7 - (d + 1) = 6 - d by omega] at b1
      rw [show 7 - d = (6 - d) + 1 by omega]
      show _ < (m + 1) * pw m (6 - d)
      have := Nat.mul_le_mul_right (pw m (6 - d)) (show q + 1 ≤ m + 1 by omega)
      rw [Nat.add_mul] at this
      omega
    refine Or.inl ⟨q * pw m (6 - d) + b, lb, Or.inr eb, ?_, fun j hj => ?_, fun code hcode j j1 j2 => ?_, by rw [u1]; exact b6, ?_, fun v hv hD hh => ?_⟩
    · rw [u1, b3, cmq _ eb, em]
    · rw [u2, b4 j (by omega)]; exact c3 j hj
    · have e1 : code % pw m (6 - d) = b := by
        rw [← pw_m, show (6 - d) + 1 = 7 - d by omega, hcode, em]
      rw [u2]
      by_cases e : j = d
      · rw [e, b4 d (by omega), c4]
        unfold dgt
        rw [← pw_d, show (6 - d) + 1 = 7 - d by omega, hcode, eb]
      · exact b5 code (by rw [show 7 - (d + 1) = 6 - d by omega]; exact e1) j (by omega) j2
    · rw [u1]
      exact hup _ _ lb eb (by rw [em]; exact b7)
    · rw [u1] at hh
      rcases hD with hD | hD
      · -- of a place before
        have vq := hDq v hD
        have vb : q * pw m (6 - d) + b < v := by
          have a := Nat.div_mul_le_self v (pw m (6 - d))
          have c := Nat.mul_le_mul_right (pw m (6 - d)) (show q + 1 ≤ v / pw m (6 - d) by omega)
          rw [Nat.add_mul] at c
          rw [show 7 - (d + 1) = 6 - d by omega] at b1
          omega
        have hl : ((came + cmr m (7 - d) v : Nat) : Int) < Z 105 6 := by omega
        rcases y2 with ⟨b', p1, p2, p3, p4, p5, p6, p7, p8⟩ | ⟨p1, p2, p3, p4⟩
        · exact p8 v hv hD (Or.inl (by omega))
        · exact p4 v hv hD (by omega)
      · rw [cmq v hD] at hh
        refine hup v (-1) hv hD (b8 _ (lt v) trivial ?_)
        rcases hh with hh | ⟨hh, hh2⟩
        · exact Or.inl hh
        · refine Or.inr ⟨hh, ?_⟩
          have a := Nat.div_add_mod v (pw m (6 - d))
          rw [hD, Nat.mul_comm] at a
          omega
  · -- none below
    rw [c1] at n1 n2
    rw [c2] at n3
    have dead : ∀ v : Nat, v < pw m (7 - d) → v / pw m (6 - d) = q → ((came + cmr m (7 - d) v : Nat) : Int) ≤ Z 105 6 → zOut R l m d V v (-1) := fun v hv hD hh => by
      rw [cmq v hD] at hh
      exact hup v (-1) hv hD (n4 _ (lt v) trivial hh)
    rcases y2 with ⟨b', p1, p2, p3, p4, p5, p6, p7, p8⟩ | ⟨p1, p2, p3, p4⟩
    · refine Or.inl ⟨b', p1, Or.inl p2, by rw [u1, n1]; exact p3, fun j hj => by rw [u2, n3]; exact p4 j hj, fun code hcode j j1 j2 => by rw [u2, n3]; exact p5 code hcode j j1 j2, by rw [u1, n2]; exact p6, by rw [u1, n2]; exact p7, fun v hv hD hh => ?_⟩
      rw [u1, n1] at hh
      rcases hD with hD | hD
      · exact p8 v hv hD hh
      · exact dead v hv hD (by rw [n1]; omega)
    · refine Or.inr ⟨by rw [u1, n1]; exact p1, by rw [u1, n2]; exact p2, by rw [u2, n3]; exact p3, fun v hv hD hh => ?_⟩
      rw [u1, n1] at hh
      rcases hD with hD | hD
      · exact p4 v hv hD hh
      · exact dead v hv hD (by rw [n1]; exact hh)
/-- a place that costs too many comings, or kills: nothing is found -/
theorem zTk.skip {R : Nat → Nat → Nat} {l m d came q : Nat} {D : Nat → Prop} {V Y U : Nat → Nat → Int} (hT : zTk R l m d came (fun v => D v) V Y) (hU : U 105 = Y 105 ∧ U 109 = Y 109) (hs : ∀ v : Nat, v < pw m (7 - d) → v / pw m (6 - d) = q → ((came + cmr m (7 - d) v : Nat) : Int) ≤ Y 105 6 → zOut R l m d V v (-1)) : zTk R l m d came (fun v => D v ∨ v / pw m (6 - d) = q) V U := by
  obtain ⟨y1, y2⟩ := hT
  obtain ⟨u1, u2⟩ := hU
  refine ⟨by rw [u1]; exact y1, ?_⟩
  rcases y2 with ⟨b', p1, p2, p3, p4, p5, p6, p7, p8⟩ | ⟨p1, p2, p3, p4⟩
  · refine Or.inl ⟨b', p1, Or.inl p2, by rw [u1]; exact p3, fun j hj => by rw [u2]; exact p4 j hj, fun code hcode j j1 j2 => by rw [u2]; exact p5 code hcode j j1 j2, by rw [u1]; exact p6, by rw [u1]; exact p7, fun v hv hD hh => ?_⟩
    rw [u1] at hh
    rcases hD with hD | hD
    · exact p8 v hv hD hh
    · exact hs v hv hD (by omega)
  · refine Or.inr ⟨by rw [u1]; exact p1, by rw [u1]; exact p2, by rw [u2]; exact p3, fun v hv hD hh => ?_⟩
    rw [u1] at hh
    rcases hD with hD | hD
    · exact p4 v hv hD hh
    · exact hs v hv hD hh
end
section
section XG
variable {p : Program} {l : Launch} {e : Env} {R : Room} {s : State} {m : MethodId} {args : Array Value} {below : List Frame} {meth : Method} {c : Code} {cells slots : Nat} {Q : State → Prop}
variable {D : va_G} {A : Nat → Prop} {H0 : Heap} {nL : Nat} {ws : va_W} {pc : Nat} {lv : List (Nat × Value)} {st : List Value} {cc : ByteArray} {own : String} {cy : Nat → ClassId}
theorem x_lw {ws2 : va_W} (h : ws = ws2) (k : xW p l e R s m args below meth c D A H0 nL cells slots Q ws2 pc lv st) : xW p l e R s m args below meth c D A H0 nL cells slots Q ws pc lv st := by subst h; exact k
theorem x_gobj (C : xC2 p s m args meth c D A H0 nL cc own (xTY cy)) {index : Nat} {a : Nat} (hlink : Cond.methodLink own index objectInit ∈ WG) (hd : decode cc pc = .ok (.invokespecial index, 3)) (hf : 1 ≤ R.frames) (hlo : (st.map fun v => v.category).sum + 12 ≤ R.locals) (k : xW p l e R s m args below meth c D A H0 nL cells slots Q ws (pc + 3) lv st) : xW p l e R s m args below meth c D A H0 nL cells slots Q ws pc lv (.ref a :: st) := by
  intro H locs la hP hD hS hl
  refine W.objInit C.1.1 C.1.2.1 C.1.2.2.2.1 (C.1.2.2.2.2.1 _ hlink) (C.1.2.2.2.2.1 _ wi_objectInit) (C.1.2.2.2.2.1 _ wm_objectInit) rfl (by rw [C.1.2.2.1]; exact hl.1) rfl hd hf (by show 2 * 0 + _ + 12 ≤ _; omega) ?_
  exact k H locs la hP hD hS hl
theorem x_gget (C : xC2 p s m args meth c D A H0 nL cc own (xTY cy)) {a : Nat} {ci : Nat} {fs : List Value} (q0 : Nat) (he : ws[q0]? = some (a, .inr (ci, fs))) {Cn : String} {T : u_T} {NN index : Nat} (hc : vwCl[ci]? = some (Cn, T, NN)) (hin : ∀ w ∈ u_ws Cn T NN, w ∈ WG) (k : Nat) (hk : k < NN) (hw : Cond.fieldLink own index (T k).1 (T k).2.1 (T k).2.2.1 ∈ WG) {v : Value} (hv : fs[k]? = some v) (hd : decode cc pc = .ok (.getfield index, 3)) (kk : xW p l e R s m args below meth c D A H0 nL cells slots Q ws (pc + 3) lv (v :: st)) : xW p l e R s m args below meth c D A H0 nL cells slots Q ws pc lv (.ref a :: st) :=
  fun H locs la hP hD hS hl => va_get C.1.1 C.1.2.1 C.1.2.2.2.2.1 hin C.1.2.2.2.1 C.1.2.2.2.2.2.1 hP q0 he hc k hk (C.1.2.2.2.2.1 _ hw) (fun _ h => h) hv hd (kk H locs la hP hD hS hl)
theorem x_gput (C : xC2 p s m args meth c D A H0 nL cc own (xTY cy)) {a : Nat} {ci : Nat} {fs : List Value} (q0 : Nat) (he : ws[q0]? = some (a, .inr (ci, fs))) {Cn : String} {T : u_T} {NN index : Nat} (hc : vwCl[ci]? = some (Cn, T, NN)) (hin : ∀ w ∈ u_ws Cn T NN, w ∈ WG) (k : Nat) (hk : k < NN) (hw : Cond.fieldLink own index (T k).1 (T k).2.1 (T k).2.2.1 ∈ WG) (ty0 : Nat → FieldType) (hty : ∀ k, k < NN → parseFieldDescriptor (T k).2.2.1 = some (ty0 k)) (hnm : ∀ a, a < NN → ∀ b, b < NN → a ≠ b → (T a).2.1 ≠ (T b).2.1) (hfin : (T k).2.2.2 = false) {ty : FieldType} (hpd : parseFieldDescriptor (T k).2.2.1 = some ty) {v : Value} (hnar : narrow ty v = v) (hfit : fits ty v = true) (hl : k < fs.length) (hd : decode cc pc = .ok (.putfield index, 3)) {ws2 : va_W} (hws : ws.set q0 (a, .inr (ci, fs.set k v)) = ws2) (kk : xW p l e R s m args below meth c D A H0 nL cells slots Q ws2 (pc + 3) lv st) : xW p l e R s m args below meth c D A H0 nL cells slots Q ws pc lv (v :: .ref a :: st) := by
  intro H locs la hP hD hS hlv
  refine va_put C.1.1 C.1.2.1 C.1.2.2.2.2.1 hin ty0 hty hnm C.1.2.2.2.1 C.1.2.2.2.2.2.1 hP hD hS q0 he hc k hk (C.1.2.2.2.2.1 _ hw) (fun _ h => h) hfin hpd hnar hfit hl hd (fun H1 locs1 hP1 hD1 hS1 => ?_)
  rw [hws] at hP1 hD1
  exact kk H1 locs1 la hP1 hD1 hS1 hlv
theorem x_gputF (C : xC2 p s m args meth c D A H0 nL cc own (xTY cy)) {a : Nat} {ci : Nat} {fs : List Value} (q0 : Nat) (he : ws[q0]? = some (a, .inr (ci, fs))) {Cn : String} {T : u_T} {NN index : Nat} (hc : vwCl[ci]? = some (Cn, T, NN)) (hin : ∀ w ∈ u_ws Cn T NN, w ∈ WG) (k : Nat) (hk : k < NN) (hw : Cond.fieldLink own index (T k).1 (T k).2.1 (T k).2.2.1 ∈ WG) (ty0 : Nat → FieldType) (hty : ∀ k, k < NN → parseFieldDescriptor (T k).2.2.1 = some (ty0 k)) (hnm : ∀ a, a < NN → ∀ b, b < NN → a ≠ b → (T a).2.1 ≠ (T b).2.1) (hfin : (T k).2.2.2 = true) (hin2 : meth.name = "<init>") (hdecl : (T k).1 = own) {ty : FieldType} (hpd : parseFieldDescriptor (T k).2.2.1 = some ty) {v : Value} (hnar : narrow ty v = v) (hfit : fits ty v = true) (hl : k < fs.length) (hd : decode cc pc = .ok (.putfield index, 3)) {ws2 : va_W} (hws : ws.set q0 (a, .inr (ci, fs.set k v)) = ws2) (kk : xW p l e R s m args below meth c D A H0 nL cells slots Q ws2 (pc + 3) lv st) : xW p l e R s m args below meth c D A H0 nL cells slots Q ws pc lv (v :: .ref a :: st) := by
  intro H locs la hP hD hS hlv
  refine va_putF C.1.1 C.1.2.1 C.1.2.2.2.2.1 hin ty0 hty hnm C.1.2.2.2.1 C.1.2.2.2.2.2.1 hP hD hS q0 he hc k hk (C.1.2.2.2.2.1 _ hw) (fun _ h => h) hfin hin2 hdecl hpd hnar hfit hl hd (fun H1 locs1 hP1 hD1 hS1 => ?_)
  rw [hws] at hP1 hD1
  exact kk H1 locs1 la hP1 hD1 hS1 hlv
theorem x_gnew (C : xC2 p s m args meth c D A H0 nL cc own (xTY cy)) {Cn : String} {T : u_T} {NN ci index : Nat} (hcl : Cond.classLink own index Cn ∈ WG) (hinst : Cond.instantiable Cn NN ∈ WG) (hini : Cond.initialized Cn ∈ WG) (hin : ∀ w ∈ u_ws Cn T NN, w ∈ WG) (ty : Nat → FieldType) (hty : ∀ k, k < NN → parseFieldDescriptor (T k).2.2.1 = some (ty k)) (hc : vwCl[ci]? = some (Cn, T, NN)) {fs : List Value} (hfs : ∀ j, j < NN → defaultValue (ty j) = vp_V fs j) (hcells : cells + 1 ≤ R.cells) (hslots : slots + NN ≤ R.slots) (hd : decode cc pc = .ok (.new index, 3)) {ws2 : Nat → va_W} (hws : ∀ q, ws ++ [(q, .inr (ci, fs))] = ws2 q) (kk : ∀ q : Nat, xW p l e R s m args below meth c D A H0 nL (cells + 1) (slots + NN) Q (ws2 q) (pc + 3) lv (.ref q :: st)) : xW p l e R s m args below meth c D A H0 nL cells slots Q ws pc lv st := by
  intro H locs la hP hD hS hl
  refine va_new C.1.1 C.1.2.1 C.1.2.2.2.2.1 hin ty hty C.1.2.2.2.1 (C.1.2.2.2.2.1 _ hcl) (C.1.2.2.2.2.1 _ hinst) (C.1.2.2.2.2.1 _ hini) C.1.2.2.2.2.2.1 hP hD hS C.1.2.2.2.2.2.2.1 hc hfs hcells hslots hd (fun q H1 hP1 hD1 hS1 => ?_)
  rw [hws] at hP1 hD1
  exact kk q H1 locs la hP1 hD1 hS1 hl
theorem x_gnewa (C : xC2 p s m args meth c D A H0 nL cc own (xTY cy)) {atype : ArrayType} {ty : FieldType} (hty : newarray.typeOf atype = ty) (hwd : Cond.arrayClass ty ∈ WG) {t : Nat} (ht : (xTY cy)[t]? = some (cy t, ty)) (hprim : ∀ (U : State) (cA : ClassId), va_RA U cA ty → U.vm.findClass ("[" ++ ty.toString) = some cA) {N' : Nat} {a0 : vp_A} (ha : ∀ cA : ClassId, vp_cell cA a0 = arrV cA N' (fun _ => defaultValue ty)) (hN : N' < 2147483648) (hbytes : N' * componentBytes ty ≤ 536870912) (hcells : cells + 1 ≤ R.cells) (hslots : slots + N' ≤ R.slots) (hd : decode cc pc = .ok (.newarray atype, 2)) {ws2 : Nat → va_W} (hws : ∀ q, ws ++ [(q, .inl (cy t, a0))] = ws2 q) (kk : ∀ q : Nat, xW p l e R s m args below meth c D A H0 nL (cells + 1) (slots + N') Q (ws2 q) (pc + 2) lv (.ref q :: st)) : xW p l e R s m args below meth c D A H0 nL cells slots Q ws pc lv (vI (N' : Int) :: st) := by
  intro H locs la hP hD hS hl
  have r : R32 (N' : Int) := ⟨by omega, by omega⟩
  subst hty
  refine va_newa C.1.1 C.1.2.1 (C.1.2.2.2.2.1 _ hwd) rfl C.1.2.2.2.2.2.1 hP hD hS C.1.2.2.2.2.2.2.1 ha (fun h => by have := (xi_lt (b := 0) r (by decide)).mp h; omega) (by rw [xi_nat r]; omega) hbytes hcells hslots hd (fun q cA H1 hK1 hP1 hD1 hS1 => ?_)
  have e1 := hprim _ _ (hK1.2 (xTY cy).length (cA, newarray.typeOf atype) (by simp)).2
  have e2 := hprim _ _ (C.1.2.2.2.2.2.1.2 t _ ht).2
  have e3 : cA = cy t := Option.some.inj (e1.symm.trans e2)
  subst e3
  rw [hws] at hP1 hD1
  exact kk q H1 locs la hP1 hD1 hS1 hl
theorem x_gnewq (C : xC2 p s m args meth c D A H0 nL cc own (xTY cy)) {Cn : String} {index : Nat} (hcl : Cond.classLink own index Cn ∈ WG) (hov : Cn ∈ [RX5, RX4, RX9]) {t : Nat} (ht : (xTY cy)[t]? = some (cy t, .object Cn)) {N' : Nat} (hN : N' < 2147483648) (hbytes : N' * 4 ≤ 536870912) (hcells : cells + 1 ≤ R.cells) (hslots : slots + N' ≤ R.slots) (hd : decode cc pc = .ok (.anewarray index, 3)) {ws2 : Nat → va_W} (hws : ∀ q, ws ++ [(q, .inl (cy t, N', .inr (.inr (.inr (.inr (fun _ => none))))))] = ws2 q) (kk : ∀ q : Nat, xW p l e R s m args below meth c D A H0 nL (cells + 1) (slots + N') Q (ws2 q) (pc + 3) lv (.ref q :: st)) : xW p l e R s m args below meth c D A H0 nL cells slots Q ws pc lv (vI (N' : Int) :: st) := by
  intro H locs la hP hD hS hl
  have r : R32 (N' : Int) := ⟨by omega, by omega⟩
  refine va_newq C.1.1 C.1.2.1 C.1.2.2.2.1 (C.1.2.2.2.2.1 _ hcl) (C.2.1 _ hov) C.1.2.2.2.2.2.1 hP hD hS C.1.2.2.2.2.2.2.1 (fun h => by have := (xi_lt (b := 0) r (by decide)).mp h; omega) (N' := N') (by rw [xi_nat r]; omega) hbytes hcells hslots hd (fun q cA H1 hK1 hP1 hD1 hS1 => ?_)
  obtain ⟨_, _, _, _, _, e1⟩ := (hK1.2 (xTY cy).length (cA, .object Cn) (by simp)).2
  obtain ⟨_, _, _, _, _, e2⟩ := (C.1.2.2.2.2.2.1.2 t _ ht).2
  have e3 : cA = cy t := Option.some.inj (e1.symm.trans e2)
  subst e3
  rw [hws] at hP1 hD1
  exact kk q H1 locs la hP1 hD1 hS1 hl
theorem x_gastq (C : xC2 p s m args meth c D A H0 nL cc own (xTY cy)) {t : Nat} {r : vw_C} (ht : (xTY cy)[t]? = some (cy t, .object r.1)) {a n v ci : Nat} {vs : List Value} {f : Nat → Option Nat} (q0 qk : Nat) (ha : ws[q0]? = some (a, .inl (cy t, n, .inr (.inr (.inr (.inr f)))))) (hv : ws[qk]? = some (v, .inr (ci, vs))) (hc : vwCl[ci]? = some r) (i : Nat) (hi : i < n) (hn : n < 2147483648) (hd : decode cc pc = .ok (.aastore, 1)) {ws2 : va_W} (hws : ws.set q0 (a, .inl (cy t, n, .inr (.inr (.inr (.inr (va_up f i (some v))))))) = ws2) (kk : xW p l e R s m args below meth c D A H0 nL cells slots Q ws2 (pc + 1) lv st) : xW p l e R s m args below meth c D A H0 nL cells slots Q ws pc lv (.ref v :: vI (i : Int) :: .ref a :: st) := by
  intro H locs la hP hD hS hl
  refine va_astq C.1.1 C.1.2.1 C.1.2.2.2.2.2.1 hP hD hS q0 t qk ci (r := r) ha ht hv hc (xi_in (a := (i : Int)) (by omega) hn) hd (fun H1 locs1 hP1 hD1 hS1 => ?_)
  rw [xi_nat ⟨by omega, by omega⟩, Int.toNat_natCast, hws] at hP1 hD1
  exact kk H1 locs1 la hP1 hD1 hS1 hl
theorem x_giast (C : xC2 p s m args meth c D A H0 nL cc own (xTY cy)) {a n : Nat} {f : Nat → Int32} {x : Int} (q0 : Nat) (ha : ws[q0]? = some (a, .inl (cy 0, n, .inl f))) (i : Nat) (hi : i < n) (hn : n < 2147483648) (hd : decode cc pc = .ok (.iastore, 1)) {ws2 : va_W} (hws : ws.set q0 (a, .inl (cy 0, n, .inl (upd f i (Int32.ofInt x)))) = ws2) (kk : xW p l e R s m args below meth c D A H0 nL cells slots Q ws2 (pc + 1) lv st) : xW p l e R s m args below meth c D A H0 nL cells slots Q ws pc lv (vI x :: vI (i : Int) :: .ref a :: st) := by
  intro H locs la hP hD hS hl
  refine va_iast C.1.1 C.1.2.1 C.1.2.2.2.2.2.1 hP hD hS q0 0 ha rfl (xi_in (a := (i : Int)) (by omega) hn) hd (fun H1 locs1 hP1 hD1 hS1 => ?_)
  rw [xi_nat ⟨by omega, by omega⟩, Int.toNat_natCast, hws] at hP1 hD1
  exact kk H1 locs1 la hP1 hD1 hS1 hl
end XG
end
