-- answers: comes, can (own work)
theorem sb255 : ∀ n : Nat, n < 256 → iAnd ((n : Int) - 128) 255 = if (n : Int) - 128 < 0 then (n : Int) + 128 else (n : Int) - 128 := by decide +kernel
theorem p10b : ∀ n : Nat, n ≤ 12 → (10 : Int) ^ n ≤ 1000000000000 ∧ 0 < (10 : Int) ^ n := by decide
theorem q_fillO {V J V1 J1 : Nat → Nat → Int} {R R1 : Nat → Nat → Nat} (h : f_s_fillO 0 V J R (V1, J1, R1)) : V1 = V ∧ R1 = R ∧ ∀ j : Nat, j < 13 → J1 128 j = 0 := by
  unfold f_s_fillO at h
  refine lop2_k (fun (z : Int) (J : Nat → Nat → Int) => 0 ≤ z ∧ ∀ j : Nat, (j : Int) < z → J 128 j = 0) (fun r : xS => r.1 = V ∧ r.2.2 = R ∧ ∀ j : Nat, j < 13 → r.2.1 128 j = 0) (fun rc hrc z J2 hJ r h => ?_) _ _ _ ⟨by omega, fun j hj => by omega⟩ _ h
  obtain ⟨hz, hJ⟩ := hJ
  by_cases g : 13 ≤ z
  · rw [if_pos g] at h
    simp only [rtn] at h
    subst h
    exact ⟨rfl, rfl, fun j hj => hJ j (by omega)⟩
  · rw [if_neg g] at h
    obtain ⟨J3, e3, h⟩ := rdb_g h
    refine hrc _ _ ⟨by omega, fun j hj => ?_⟩ _ h
    rw [← e3]
    by_cases e : j = z.toNat
    · rw [e, up2_s]
    · rw [up2_n _ _ (Or.inr e)]; exact hJ j (by omega)
theorem q_odds {n : Nat} {z y : Int} {V V2 J J2 W W2 Jm : Nat → Nat → Int} {R R2 Rm : Nat → Nat → Nat} (hn : n ≤ 12) (hT : TP V W) (hl : (n : Int) ≤ W 0 4) (h4 : W2 4 = W 4) (hx : f_s_fillOdds (n : Int) V J R (z, (V2, J2, R2))) (hm : f_m_areTenths (n : Int) W2 Jm Rm y) :
    (z = 1 ∧ y = 1 ∧ (∀ j : Nat, j < n → 0 ≤ W 4 j ∧ W 4 j ≤ 10) ∧ ∀ k : Nat, k ≤ 12 → J2 128 k = oA (W 4) n k) ∨ (z = 0 ∧ y = 0) := by
  obtain ⟨t1, t2, t3⟩ := hT
  unfold f_s_fillOdds at hx
  unfold f_m_areTenths at hm
  obtain ⟨V1, J1, R1, k1, -, hx⟩ := hx
  obtain ⟨a1, a2, a3⟩ := q_fillO k1
  subst a1 a2
  obtain ⟨J3, e3, hx⟩ := rdb_g hx
  obtain ⟨bX, hbX, hx9⟩ := lop2_g hx
  obtain ⟨bM, hbM, hm9⟩ := lop1_g hm
  have key : ∀ (N m i : Nat) (J4 : Nat → Nat → Int), i ≤ n → (∀ j : Nat, j < i → 0 ≤ W 4 j ∧ W 4 j ≤ 10) → (∀ k : Nat, k ≤ 12 → J4 128 k = oA (W 4) i k) → lop2 N bX (i : Int) J4 (z, (V2, J2, R2)) → lop1 m bM (i : Int) y → (z = 1 ∧ y = 1 ∧ (∀ j : Nat, j < n → 0 ≤ W 4 j ∧ W 4 j ≤ 10) ∧ ∀ k : Nat, k ≤ 12 → J2 128 k = oA (W 4) n k) ∨ (z = 0 ∧ y = 0) := by
    intro N
    induction N with
    | zero => intro m i J4 _ _ _ hx; exact False.elim hx
    | succ N ih =>
      intro m i J4 hi hp hJ hx hm
      cases m with
      | zero => exact False.elim hm
      | succ m =>
        rw [lop2_s hbX] at hx
        rw [lop1_s hbM] at hm
        by_cases g : (n : Int) ≤ i
        · rw [if_pos g] at hx hm
          have ei : i = n := by omega
          rw [ei] at hp hJ
          simp only [rtn, Prod.mk.injEq] at hx
          have hm : y = 1 := hm
          refine Or.inl ⟨hx.1, hm, hp, fun k hk => ?_⟩
          rw [hx.2.2.1]
          exact hJ k hk
        · rw [if_neg g] at hx hm
          obtain ⟨w, hw, hx⟩ := hx
          have hw := q_at hw ⟨by omega, by rw [t1]; omega⟩
          rw [Int.toNat_natCast, t3 i (by omega)] at hw
          obtain ⟨u, hu, -, hx⟩ := hx
          have hu := q_sWithin hu
          obtain ⟨q, eq, rq, hm⟩ := rdb_g hm
          rw [Int.toNat_natCast, h4] at eq
          obtain ⟨v, hv, -, hm⟩ := hm
          have hv := q_mIn hv
          have e := sb255 (q + 128).toNat (by omega)
          rw [show (((q + 128).toNat : Nat) : Int) - 128 = q by omega] at e
          rw [eq] at hw
          rw [e] at hw
          have euv : u = v := by
            refine hu.eq hv ?_
            by_cases gq : q < 0
            · rw [if_pos gq] at hw; omega
            · rw [if_neg gq] at hw; omega
          subst euv
          by_cases gu : ¬ u = 0
          · rw [if_pos gu] at hx hm
            have qv := hv.on gu
            have hwq : w = q := by rw [hw, if_neg (by omega)]
            have hpi : 0 ≤ W 4 i ∧ W 4 i ≤ 10 := by rw [eq]; exact qv
            have ha := fun k => (oA_b (W 4) i hp k).1
            have hB := p10b i (by omega)
            have f9 : ∀ k : Nat, oA (W 4) (i + 1) k = oA (W 4) i k * (10 - w) + (if k = 0 then 0 else oA (W 4) i (k - 1) * w) := fun k => by
              rw [hwq, ← eq]; rfl
            obtain ⟨J5, g5, hx⟩ := od_x (p := w) (by omega) (B := 10 ^ i) (by omega) (a := oA (W 4) i) ha (F := lop2 N bX ((i : Int) + 1)) rfl 15 13 J4 (fun j hj => hJ j (by omega)) (fun j hj hj2 => by omega) (by omega) hx
            refine ih m (i + 1) J5 (by omega) (fun j hj => ?_) (fun k hk => ?_) (by rw [Int.natCast_add]; exact hx) (by rw [Int.natCast_add]; exact hm)
            · by_cases e2 : j = i
              · rw [e2]; exact hpi
              · exact hp j (by omega)
            · rw [g5 k hk, f9 k]
          · rw [if_neg gu] at hx hm
            simp only [rtn, Prod.mk.injEq] at hx
            have hm : y = 0 := hm
            exact Or.inr ⟨hx.1, hm⟩
  refine key _ _ 0 J3 (by omega) (fun j hj => by omega) (fun k hk => ?_) hx9 hm9
  rw [← e3]
  by_cases e : k = 0
  · rw [e, up2_s]; rfl
  · rw [up2_n _ _ (Or.inr e), a3 k (by omega)]
    simp [oA, e]
theorem q_lays {n : Nat} {W W3 Jm J3 : Nat → Nat → Int} {Rm R3 : Nat → Nat → Nat} (hn : n ≤ 12) (hp : ∀ j : Nat, j < n → 0 ≤ W 4 j ∧ W 4 j ≤ 10) (h : f_m_laysComes (n : Int) W Jm Rm (W3, J3, R3)) : ∀ k : Nat, k ≤ 12 → J3 29 k = oA (W 4) n k := by
  unfold f_m_laysComes at h
  refine lop2_k (fun (z : Int) (J : Nat → Nat → Int) => 0 ≤ z ∧ ∀ j : Nat, (j : Int) < z → J 29 j = oA (W 4) 0 j) (fun r : xS => ∀ k : Nat, k ≤ 12 → r.2.1 29 k = oA (W 4) n k) (fun rc hrc z J hJ r h => ?_) _ _ _ ⟨by omega, fun j hj => by omega⟩ _ h
  obtain ⟨hz, hJ⟩ := hJ
  by_cases g : 13 ≤ z
  · rw [if_pos g] at h
    refine lop2_k (fun (z : Int) (J : Nat → Nat → Int) => 0 ≤ z ∧ z ≤ n ∧ ∀ k : Nat, k ≤ 12 → J 29 k = oA (W 4) z.toNat k) (fun r : xS => ∀ k : Nat, k ≤ 12 → r.2.1 29 k = oA (W 4) n k) (fun rc2 hrc2 z2 J2 hJ2 r h => ?_) _ _ _ ⟨by omega, by omega, fun k hk => hJ k (by omega)⟩ _ h
    obtain ⟨hz2, hz3, hJ2⟩ := hJ2
    by_cases g2 : (n : Int) ≤ z2
    · rw [if_pos g2] at h
      simp only [rtn] at h
      subst h
      intro k hk
      have e := hJ2 k hk
      rw [show z2.toNat = n by omega] at e
      exact e
    · rw [if_neg g2] at h
      obtain ⟨i, rfl⟩ : ∃ i : Nat, z2 = (i : Int) := ⟨z2.toNat, by omega⟩
      rw [Int.toNat_natCast] at hJ2
      have hpp : ∀ j : Nat, j < i → 0 ≤ W 4 j ∧ W 4 j ≤ 10 := fun j hj => hp j (by omega)
      have hb := oA_b (W 4) i hpp
      have hB := p10b i (by omega)
      have hz0 : ∀ j : Nat, i + 2 ≤ j → j ≤ 12 → J2 29 j = oA (W 4) i j * (10 - W 4 i) + (if j = 0 then 0 else oA (W 4) i (j - 1) * W 4 i) := fun j hj hj2 => by
        rw [hJ2 j hj2, if_neg (by omega), (hb j).2 (by omega), (hb (j - 1)).2 (by omega), Int.zero_mul, Int.zero_mul]
        rfl
      obtain ⟨J5, g5, h⟩ := od_m (p := W 4 i) (hp i (by omega)) (B := 10 ^ i) (by omega) (a := oA (W 4) i) (fun k => (hb k).1) (F := rc2 ((i : Int) + 1)) (V := W) (z3049 := (i : Int)) (by rw [Int.toNat_natCast]) rfl 15 (i + 2) J2 (fun j hj => hJ2 j (by omega)) hz0 (by omega) (by rw [show ((i + 2 : Nat) : Int) - 1 = (i : Int) + 1 by omega]; exact h)
      refine hrc2 _ _ ⟨by omega, by omega, fun k hk => ?_⟩ _ h
      rw [show ((i : Int) + 1).toNat = i + 1 by omega]
      exact g5 k hk
  · rw [if_neg g] at h
    have h := jnk_d h
    have nx : ∀ w : Int, w = oA (W 4) 0 z.toNat → (rdb (up2 J 29 z.toNat w) fun J3251 => rc (z + 1) J3251) r → ∀ k : Nat, k ≤ 12 → r.2.1 29 k = oA (W 4) n k := fun w ew h => by
      obtain ⟨J5, e5, h⟩ := rdb_g h
      refine hrc _ _ ⟨by omega, fun j hj => ?_⟩ _ h
      rw [← e5]
      by_cases e : j = z.toNat
      · rw [e, up2_s]; exact ew
      · rw [up2_n _ _ (Or.inr e)]; exact hJ j (by omega)
    by_cases g0 : ¬ z = 0
    · rw [if_pos g0] at h
      refine nx 0 ?_ h
      have : ¬ z.toNat = 0 := by omega
      simp [oA, this]
    · rw [if_neg g0] at h
      refine nx 1 ?_ h
      have : z.toNat = 0 := by omega
      simp [oA, this]
theorem q_power {n : Nat} {r : Int} (hn : n ≤ 12) (h : f_s_power (n : Int) r) : r = 10 ^ n := by
  unfold f_s_power at h
  refine lop2_k (fun (z w : Int) => 0 ≤ z ∧ z ≤ n ∧ w = 10 ^ z.toNat) (fun r : Int => r = 10 ^ n) (fun rc hrc z w hI r h => ?_) _ _ _ ⟨by omega, by omega, rfl⟩ _ h
  obtain ⟨i1, i2, i3⟩ := hI
  by_cases g : (n : Int) ≤ z
  · rw [if_pos g] at h
    have h : r = w := h
    rw [h, i3, show z.toNat = n by omega]
  · rw [if_neg g] at h
    obtain ⟨y, ey, h⟩ := rdb_g h
    have hB := p10b z.toNat (by omega)
    rw [← i3] at hB
    rw [wrJ_id (by omega)] at ey
    refine hrc _ _ ⟨by omega, by omega, ?_⟩ _ h
    rw [show (z + 1).toNat = z.toNat + 1 by omega, Int.pow_succ, ← i3]
    omega
theorem q_tens {n : Nat} {r : Int} (h : f_m_tens (n : Int) r) : r = 10 ^ n := by
  unfold f_m_tens at h
  refine lop2_k (fun (z w : Int) => 0 ≤ z ∧ z ≤ n ∧ w = 10 ^ z.toNat) (fun r : Int => r = 10 ^ n) (fun rc hrc z w hI r h => ?_) _ _ _ ⟨by omega, by omega, rfl⟩ _ h
  obtain ⟨i1, i2, i3⟩ := hI
  by_cases g : (n : Int) ≤ z
  · rw [if_pos g] at h
    have h : r = w := h
    rw [h, i3, show z.toNat = n by omega]
  · rw [if_neg g] at h
    refine hrc _ _ ⟨by omega, by omega, ?_⟩ _ h
    rw [show (z + 1).toNat = z.toNat + 1 by omega, Int.pow_succ, ← i3]
    omega
theorem e_comes {x y z a b : Int} {V V2 J J2 W Jm X Jm2 : Nat → Nat → Int} {R R2 Rm Rm2 : Nat → Nat → Nat} (h : WR R V W) (hx : f_s_comes x y z V J R (a, (V2, J2, R2))) (hm : f_m_comes x y z W Jm Rm (b, (X, Jm2, Rm2))) : a = b := by
  have hT := h.2.2.2.2
  have same : ∀ {c : Int} {S T : xS}, rtn (c, S) (a, (V2, J2, R2)) → rtn (c, T) (b, (X, Jm2, Rm2)) → a = b := fun h1 h2 => by
    simp only [rtn, Prod.mk.injEq] at h1 h2
    rw [h1.1, h2.1]
  unfold f_s_comes at hx
  unfold f_m_comes at hm
  obtain ⟨z1, h1, -, hx⟩ := hx
  obtain ⟨y1, k1, -, hm⟩ := hm
  have h1 := q_sWithin h1
  have e1 : z1 = y1 := h1.eq (q_mIn k1) Iff.rfl
  subst e1
  by_cases g1 : z1 = 0
  · rw [if_pos g1] at hx hm; exact same hx hm
  rw [if_neg g1] at hx hm
  have q1 := h1.on g1
  obtain ⟨z4, h4, -, hx⟩ := hx
  obtain ⟨y4, k4, -, hm⟩ := hm
  have h4 := q_sWithin h4
  have e4 : z4 = y4 := h4.eq (q_mIn k4) Iff.rfl
  subst e4
  by_cases g4 : z4 = 0
  · rw [if_pos g4] at hx hm; exact same hx hm
  rw [if_neg g4] at hx hm
  have q4 := h4.on g4
  obtain ⟨z7, h7, -, hx⟩ := hx
  obtain ⟨y7, k7, -, hm⟩ := hm
  have h7 := q_sWithin h7
  have e7 : z7 = y7 := h7.eq (q_mIn k7) Iff.rfl
  subst e7
  by_cases g7 : z7 = 0
  · rw [if_neg (fun hh => hh g7)] at hx
    rw [if_pos g7] at hm
    exact same hx hm
  rw [if_pos g7] at hx
  rw [if_neg g7] at hm
  obtain ⟨z10, e10, -, hx⟩ := rdb_g hx
  obtain ⟨y10, f10, -, hm⟩ := rdb_g hm
  have e : z10 = y10 := by rw [← e10, ← f10]; exact hT.1
  subst e
  by_cases g10 : x ≤ z10
  · rw [if_pos g10] at hx hm
    clear h1 k1 h4 k4 h7 k7
    obtain ⟨n, rfl⟩ : ∃ n : Nat, x = (n : Int) := ⟨x.toNat, by omega⟩
    obtain ⟨z12, V12, J12, R12, k12, -, -, hx9⟩ := hx
    obtain ⟨V13, e13, hx9⟩ := rdb_g hx9
    obtain ⟨W12, f12, hm9⟩ := rdb_g hm
    obtain ⟨z13, k13, -, hm9⟩ := hm9
    have w4 : W12 4 = W 4 := by rw [← f12, up2_c _ _ (by decide)]
    rcases q_odds (by omega) hT (by omega) w4 k12 k13 with ⟨r1, r2, r3, r4⟩ | ⟨r1, r2⟩
    · rw [if_neg (by omega)] at hx9
      rw [if_pos (by omega)] at hm9
      obtain ⟨z15, e15, hx9⟩ := rdb_g hx9
      obtain ⟨z16, k16, hx9⟩ := hx9
      obtain ⟨z17, k17, hx9⟩ := hx9
      obtain ⟨W15, J15, R15, j15, -, hm9⟩ := hm9
      obtain ⟨y16, f16, hm9⟩ := rdb_g hm9
      obtain ⟨y17, j17, -, hm9⟩ := hm9
      obtain ⟨y18, j18, hm9⟩ := hm9
      simp only [rtn, Prod.mk.injEq] at hx9 hm9
      have l15 := q_lays (by omega) (fun j hj => by rw [w4]; exact r3 j hj) j15
      have hb := oA_b (W 4) n r3 y.toNat
      have hB := p10b n (by omega)
      have t1 : z15 = oA (W 4) n y.toNat := by rw [← e15]; exact r4 _ (by omega)
      have t2 : y16 = oA (W 4) n y.toNat := by rw [← f16, l15 _ (by omega), w4]
      have t3 : z16 = 10 ^ n := q_power (by omega) k16
      have t4 : y17 = 10 ^ n := q_tens j17
      rw [t1, t3] at k17
      rw [t2, t4] at j18
      rw [hx9.1, hm9.1]
      exact e_part (by omega) (by omega) k17 j18
    · rw [if_pos r1] at hx9
      rw [if_neg (fun hh => hh r2)] at hm9
      exact same hx9 hm9
  · rw [if_neg g10] at hx hm; exact same hx hm
