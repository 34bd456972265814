-- answers: can (own work)
theorem mb54 {x d B : Int} (hx : 0 ≤ x ∧ x ≤ B) (hd : 0 ≤ d ∧ d ≤ 54) : 0 ≤ x * d ∧ x * d ≤ 54 * B := by
  have h1 : x * d ≤ x * 54 := Int.mul_le_mul_of_nonneg_left hd.2 hx.1
  have h2 : 0 ≤ x * d := Int.mul_nonneg hx.1 hd.1
  omega
theorem e_can {x y z u a b : Int} {V V2 J J2 W Jm X Jm2 : Nat → Nat → Int} {R R2 Rm Rm2 : Nat → Nat → Nat} (h : WR R V W) (hx : f_s_can x y z u V J R (a, (V2, J2, R2))) (hm : f_m_can x y z u W Jm Rm (b, (X, Jm2, Rm2))) : a = b := by
  have hT := h.2.2.2.2
  have same : ∀ {c : Int} {S T : xS}, rtn (c, S) (a, (V2, J2, R2)) → rtn (c, T) (b, (X, Jm2, Rm2)) → a = b := fun h1 h2 => by
    simp only [rtn, Prod.mk.injEq] at h1 h2
    rw [h1.1, h2.1]
  unfold f_s_can at hx
  unfold f_m_can at hm
  obtain ⟨z1, h1, -, hx⟩ := hx
  obtain ⟨y1, k1, -, hm⟩ := hm
  have h1 := q_sWithin h1
  have e1 : z1 = y1 := h1.eq (q_mIn k1) Iff.rfl
  subst e1
  by_cases g1 : z1 = 0
  · rw [if_pos g1] at hx hm; exact same hx hm
  rw [if_neg g1] at hx hm
  have q1 := h1.on g1
  obtain ⟨z4, h4, -, hx⟩ := hx
  obtain ⟨y4, k4, -, hm⟩ := hm
  have h4 := q_sWithin h4
  have e4 : z4 = y4 := h4.eq (q_mIn k4) Iff.rfl
  subst e4
  by_cases g4 : z4 = 0
  · rw [if_neg (fun hh => hh g4)] at hx
    rw [if_pos g4] at hm
    exact same hx hm
  rw [if_pos g4] at hx
  rw [if_neg g4] at hm
  have q4 := h4.on g4
  obtain ⟨z7, h7, -, hx⟩ := hx
  obtain ⟨y7, k7, -, hm⟩ := hm
  have h7 := q_sWithin h7
  have e7 : z7 = y7 := h7.eq (q_mIn k7) Iff.rfl
  subst e7
  by_cases g7 : z7 = 0
  · rw [if_pos g7] at hx hm; exact same hx hm
  rw [if_neg g7] at hx hm
  have q7 := h7.on g7
  obtain ⟨z9, h9, -, hx⟩ := hx
  obtain ⟨y9, k9, -, hm⟩ := hm
  have h9 := q_sWithin h9
  have e9 : z9 = y9 := h9.eq (q_mIn k9) Iff.rfl
  subst e9
  by_cases g9 : z9 = 0
  · rw [if_pos g9] at hx hm; exact same hx hm
  rw [if_neg g9] at hx hm
  obtain ⟨z10, e10, -, hx⟩ := rdb_g hx
  obtain ⟨y10, f10, -, hm⟩ := rdb_g hm
  have e : z10 = y10 := by rw [← e10, ← f10]; exact hT.1
  subst e
  by_cases g10 : x ≤ z10
  · rw [if_pos g10] at hx hm
    clear h1 k1 h4 k4 h7 k7 h9 k9
    obtain ⟨n, rfl⟩ : ∃ n : Nat, x = (n : Int) := ⟨x.toNat, by omega⟩
    obtain ⟨z12, V12, J12, R12, k12, -, -, hx9⟩ := hx
    obtain ⟨V13, e13, hx9⟩ := rdb_g hx9
    obtain ⟨W12, f12, hm9⟩ := rdb_g hm
    obtain ⟨z13, k13, -, hm9⟩ := hm9
    have w4 : W12 4 = W 4 := by rw [← f12, up2_c _ _ (by decide)]
    rcases q_odds (by omega) hT (by omega) w4 k12 k13 with ⟨r1, r2, r3, r4⟩ | ⟨r1, r2⟩
    · rw [if_pos (by omega)] at hx9 hm9
      obtain ⟨W15, J15, R15, j15, -, hm9⟩ := hm9
      have l15 := q_lays (by omega) (fun j hj => by rw [w4]; exact r3 j hj) j15
      rw [w4] at l15
      have hB := p10b n (by omega)
      obtain ⟨bX, hbX, hxA⟩ := lop2_g hx9
      obtain ⟨bM, hbM, hmA⟩ := lop2_g hm9
      have key : ∀ (N M k : Nat) (acc : Int), 1 ≤ k → k ≤ n + 1 → 0 ≤ acc ∧ acc ≤ 54 * 1000000000000 * k → lop2 N bX (k : Int) acc (a, (V2, J2, R2)) → lop2 M bM (k : Int) acc (b, (X, Jm2, Rm2)) → a = b := by
        intro N
        induction N with
        | zero => intro M k acc _ _ _ hx; exact False.elim hx
        | succ N ih =>
          intro M k acc hk1 hk2 hacc hx hm
          cases M with
          | zero => exact False.elim hm
          | succ M =>
            rw [lop2_s hbX] at hx
            rw [lop2_s hbM] at hm
            by_cases g : (n : Int) < k
            · rw [if_pos g] at hx hm
              obtain ⟨z16, k16, hx⟩ := hx
              obtain ⟨z17, k17, hx⟩ := hx
              obtain ⟨y17, j17, -, hm⟩ := hm
              obtain ⟨y18, j18, hm⟩ := hm
              simp only [rtn, Prod.mk.injEq] at hx hm
              have t3 : z16 = 10 ^ n := q_power (by omega) k16
              have t4 : y17 = 10 ^ n := q_tens j17
              rw [t3] at k17
              rw [t4] at j18
              rw [hx.1, hm.1]
              exact e_part (by omega) (by omega) k17 j18
            · rw [if_neg g] at hx hm
              obtain ⟨v1, ev1, rv1, hx⟩ := rdb_g hx
              obtain ⟨v2, ev2, rv2, hx⟩ := rdb_g hx
              obtain ⟨v3, ev3, -, hx⟩ := rdb_g hx
              obtain ⟨v4, ev4, rv4, hx⟩ := rdb_g hx
              obtain ⟨v5, ev5, rv5, hx⟩ := rdb_g hx
              obtain ⟨v6, ev6, hx⟩ := rdb_g hx
              obtain ⟨v7, ev7, hx⟩ := rdb_g hx
              obtain ⟨v8, ev8, hx⟩ := rdb_g hx
              obtain ⟨w6, ew6, hm⟩ := rdb_g hm
              obtain ⟨w1, ew1, -, hm⟩ := rdb_g hm
              obtain ⟨w2, ew2, hm⟩ := hm
              obtain ⟨w5, ew5, hm⟩ := hm
              obtain ⟨w7, ew7, hm⟩ := rdb_g hm
              obtain ⟨w8, ew8, hm⟩ := rdb_g hm
              have ew2 := q_max ew2
              have ew5 := q_max ew5
              rw [Int.toNat_natCast] at ev6 ew6
              have x6 : v6 = oA (W 4) n k := by rw [← ev6]; exact r4 k (by omega)
              have y6 : w6 = oA (W 4) n k := by rw [← ew6]; exact l15 k (by omega)
              have c3 : v3 = 1 := by omega
              rw [c3, Int.mul_one] at ev4
              have c2 : v2 = w2 := by rw [← ev2, ew2, ← ev1, ← ew1]
              have c5 : v5 = w5 := by rw [← ev5, ew5, ← ev4]
              have hb := (oA_b (W 4) n r3 k).1
              have hyk : y * 1 ≤ y * (k : Int) := Int.mul_le_mul_of_nonneg_left (by omega) (by omega)
              have hd : 0 ≤ v2 - v5 ∧ v2 - v5 ≤ 54 := by omega
              have hm54 := mb54 (B := 1000000000000) (x := oA (W 4) n k) (by omega) hd
              have c7 : v7 = w7 := by rw [← ev7, ← ew7, x6, y6, c2, c5]
              rw [x6, wrJ_id (by omega)] at ev7
              have c8 : v8 = w8 := by rw [← ev8, ← ew8, c7]
              rw [wrJ_id (by omega)] at ev8
              subst c8
              exact ih M (k + 1) v8 (by omega) (by omega) (by omega) (by rw [Int.natCast_add]; exact hx) (by rw [Int.natCast_add]; exact hm)
      -- nobody comes: nothing
      have hx0 : lop2 9 bX 0 0 (a, (V2, J2, R2)) := hxA
      rw [lop2_s hbX, if_neg (by omega)] at hx0
      obtain ⟨v1, ev1, rv1, hx0⟩ := rdb_g hx0
      obtain ⟨v2, ev2, rv2, hx0⟩ := rdb_g hx0
      obtain ⟨v3, ev3, -, hx0⟩ := rdb_g hx0
      obtain ⟨v4, ev4, rv4, hx0⟩ := rdb_g hx0
      obtain ⟨v5, ev5, rv5, hx0⟩ := rdb_g hx0
      obtain ⟨v6, ev6, hx0⟩ := rdb_g hx0
      obtain ⟨v7, ev7, hx0⟩ := rdb_g hx0
      obtain ⟨v8, ev8, hx0⟩ := rdb_g hx0
      rw [Int.mul_zero] at ev1
      have c3 : v3 = 0 := by omega
      rw [c3, Int.mul_zero] at ev4
      have c7 : v2 - v5 = 0 := by omega
      rw [c7, Int.mul_zero, wrJ_id (by omega)] at ev7
      rw [← ev7, wrJ_id (by omega)] at ev8
      rw [← ev8] at hx0
      exact key _ _ 1 0 (by omega) (by omega) (by omega) hx0 hmA
    · rw [if_neg (fun hh => hh r1)] at hx9
      rw [if_neg (fun hh => hh r2)] at hm9
      exact same hx9 hm9
  · rw [if_neg g10] at hx hm; exact same hx hm
