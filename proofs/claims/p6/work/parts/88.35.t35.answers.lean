-- answers: gives, plantIs, check (own work)
theorem e_gives {x y a b : Int} {V V2 J W Jm X : Nat → Nat → Int} {R Rm : Nat → Nat → Nat} (h : WR R V W) (hx : f_s_gives x y V J R (a, V2)) (hm : f_m_gives x y W Jm Rm (b, X)) : a = b := by
  have same : ∀ {c : Int} {V3 W3 : Nat → Nat → Int}, rtn (c, V3) (a, V2) → rtn (c, W3) (b, X) → a = b := fun h1 h2 => by
    simp only [rtn, Prod.mk.injEq] at h1 h2
    rw [h1.1, h2.1]
  unfold f_s_gives at hx
  unfold f_m_gives at hm
  obtain ⟨z1, h1, -, hx⟩ := hx
  obtain ⟨y1, k1, -, hm⟩ := hm
  obtain ⟨e1, q1⟩ := h.1.1.person h1 k1
  subst e1
  by_cases g1 : z1 = 0
  · rw [if_pos g1] at hx hm; exact same hx hm
  rw [if_neg g1] at hx hm
  have q1 := q1.on g1
  obtain ⟨z4, h4, -, hx⟩ := hx
  obtain ⟨y4, k4, -, hm⟩ := hm
  obtain ⟨e4, q4⟩ := h.1.1.plant h4 k4
  subst e4
  by_cases g4 : z4 = 0
  · rw [if_neg (fun hh => hh g4)] at hx hm; exact same hx hm
  rw [if_pos g4] at hx hm
  have q4 := q4.on g4
  obtain ⟨z7, h7, -, hx⟩ := hx
  obtain ⟨y7, k7, -, hm⟩ := hm
  obtain ⟨e7, q7⟩ := h.1.1.alive h7 k7
  subst e7
  by_cases g7 : z7 = 0
  · rw [if_pos g7] at hx hm; exact same hx hm
  rw [if_neg g7] at hx hm
  obtain ⟨z10, V10, hg, -, -, hx⟩ := hx
  obtain ⟨_, -, -, hm⟩ := rdb_g hm
  obtain ⟨_, -, -, hm⟩ := rdb_g hm
  obtain ⟨z12, V12, hc, -, -, hm⟩ := hm
  simp only [rtn, Prod.mk.injEq] at hx hm
  rw [hx.1, hm.1]
  have ht : V (1 + 3 + 2 * y.toNat) 0 = 1 := by
    have e := (h.1.1.1 y.toNat (by omega)).1
    rw [show ((y.toNat : Nat) : Int) = y by omega] at e
    rw [e]
    exact q4.2.2
  exact (d_gift (Or.inl rfl) ⟨q1.1, q1.2.1⟩ ⟨q4.1, q4.2.1⟩ h.1.1 h.2.2.2.1.1 ht hg hc).1
theorem e_plantIs {x y a b : Int} {V J W Jm : Nat → Nat → Int} {R Rm : Nat → Nat → Nat} (hy : R32 y) (h : WR R V W) (hx : f_s_plantIs x y V J R a) (hm : f_m_plantIs x y W Jm Rm b) : a = b := by
  unfold f_s_plantIs at hx
  unfold f_m_plantIs at hm
  obtain ⟨z1, h1, -, hx⟩ := hx
  obtain ⟨y1, k1, -, hm⟩ := hm
  obtain ⟨e1, q1⟩ := h.1.1.plant h1 k1
  subst e1
  by_cases g1 : z1 = 0
  · rw [if_neg (fun hh => hh g1)] at hx hm
    have hx : a = -1 := hx
    have hm : b = -1 := hm
    rw [hx, hm]
  rw [if_pos g1] at hx hm
  have q1 := q1.on g1
  obtain ⟨n, rfl⟩ : ∃ n : Nat, x = (n : Int) := ⟨x.toNat, by omega⟩
  have hn : n < 4 := by omega
  obtain ⟨c, ec, hx⟩ := rdb_g hx
  rw [Int.toNat_natCast] at ec
  have hP := h.1.1.1 n hn
  rw [ec] at hP
  obtain ⟨p0, p1, p2, p3, p4, p5, p6, p7, p8, p9⟩ := hP
  have ht : V c 0 = 1 := p0.trans q1.2.2
  rw [show ((n : Int) + 4).toNat = 4 + n by omega, show ((n : Int) + 8).toNat = 8 + n by omega, show ((n : Int) + 12).toNat = 12 + n by omega, show ((n : Int) + 16).toNat = 16 + n by omega, show ((n : Int) + 20).toNat = 20 + n by omega, Int.toNat_natCast] at hm
  obtain ⟨z5, e5, hx⟩ := rdb_g hx
  obtain ⟨z6, h6, -, hx⟩ := hx
  have h6 := q_sPlace h6
  have w5 := wr_cases (z := y - 10) ⟨by omega, by omega⟩
  by_cases g6 : z6 = 0
  · rw [if_pos g6] at hx
    have q6 := h6.off g6
    by_cases c0 : y = 0
    · rw [if_pos c0] at hx hm
      obtain ⟨w, ew, -, hm⟩ := rdb_g hm
      have hx : a = V c 1 := hx
      have hm : b = w := hm
      rw [hx, hm, ← ew]; exact p1
    rw [if_neg c0] at hx hm
    by_cases c1 : y = 1
    · rw [if_pos c1] at hx hm
      obtain ⟨w, ew, -, hm⟩ := rdb_g hm
      have hx : a = V c 2 := hx
      have hm : b = w := hm
      rw [hx, hm, ← ew]; exact p2
    rw [if_neg c1] at hx hm
    by_cases c2 : y = 2
    · rw [if_pos c2] at hx hm
      obtain ⟨w, ew, -, hm⟩ := rdb_g hm
      have hx : a = V c 3 := hx
      have hm : b = w := hm
      rw [hx, hm, ← ew]; exact p3
    rw [if_neg c2] at hx hm
    by_cases c3 : y = 3
    · rw [if_pos c3] at hx hm
      obtain ⟨w, ew, -, hm⟩ := rdb_g hm
      have hx : a = V c 4 := hx
      have hm : b = w := hm
      rw [hx, hm, ← ew]; exact p4
    rw [if_neg c3] at hx hm
    by_cases c4 : y = 4
    · rw [if_pos c4] at hx hm
      obtain ⟨w, ew, -, hm⟩ := rdb_g hm
      have hx : a = V c 5 := hx
      have hm : b = w := hm
      rw [hx, hm, ← ew]; exact p5
    rw [if_neg c4] at hx hm
    by_cases c5 : y = 5
    · rw [if_pos c5] at hx hm
      obtain ⟨u, hu, -, hx⟩ := hx
      obtain ⟨v, hv, -, hm⟩ := hm
      have hu := q_sDead hu
      have hv := q_mLives hv
      by_cases gd : dedX (V c)
      · have hu : u = 1 := by
          rcases hu with ⟨hu, -⟩ | ⟨-, hu⟩
          · exact hu
          · exact absurd gd hu
        have hv : v = 0 := by
          rcases hv with ⟨-, hv⟩ | ⟨hv, -⟩
          · exact absurd (p8.mpr gd) hv.2
          · exact hv
        rw [if_neg (by omega)] at hx
        rw [if_pos hv] at hm
        have hx : a = 1 := hx
        have hm : b = 1 := hm
        rw [hx, hm]
      · have hu : u = 0 := by
          rcases hu with ⟨-, hu⟩ | ⟨hu, -⟩
          · exact absurd hu gd
          · exact hu
        have hv : v = 1 := by
          rcases hv with ⟨hv, -⟩ | ⟨-, hv⟩
          · exact hv
          · exact absurd ⟨q1, fun hh => gd (p8.mp hh)⟩ hv
        rw [if_pos hu] at hx
        rw [if_neg (by omega)] at hm
        obtain ⟨_, -, -, hm⟩ := rdb_g hm
        obtain ⟨_, -, -, hm⟩ := rdb_g hm
        have hx : a = 0 := hx
        have hm : b = 0 := hm
        rw [hx, hm]
    rw [if_neg c5] at hx hm
    by_cases c6 : y = 6
    · rw [if_pos c6] at hx hm
      obtain ⟨u, hu, hx⟩ := hx
      have hx : a = u := hx
      have hm : b = W 1 (20 + n) := hm
      rw [hx, hm]
      unfold f_s_cardOf at hu
      obtain ⟨t, et, -, hu⟩ := rdb_g hu
      rcases p7 ht with ⟨r1, r2⟩ | ⟨r1, r2, r3⟩ | ⟨r1, r2, r3⟩
      · rw [if_neg (by omega)] at hu
        have hu : u = -2 := hu
        rw [hu, r2]
      · rw [if_pos (by omega)] at hu
        obtain ⟨s, es, hu⟩ := rdb_g hu
        rw [if_neg (by omega)] at hu
        have hu : u = -3 := hu
        rw [hu, r3]
      · rw [if_pos (by omega)] at hu
        obtain ⟨s, es, hu⟩ := rdb_g hu
        rw [if_pos (by omega)] at hu
        have hu : u = s := hu
        rw [hu, ← es, r3]
    rw [if_neg c6] at hx hm
    obtain ⟨v, hv, -, hm⟩ := hm
    have hv := q_mIn hv
    have hv0 : v = 0 := by
      rcases hv with ⟨-, hv⟩ | ⟨hv, -⟩
      · exfalso; omega
      · exact hv
    rw [if_pos hv0] at hm
    have hx : a = -1 := hx
    have hm : b = -1 := hm
    rw [hx, hm]
  · rw [if_neg g6] at hx
    have q6 := h6.on g6
    have ey : y - 10 = z5 := by omega
    rw [if_neg (by omega), if_neg (by omega), if_neg (by omega), if_neg (by omega), if_neg (by omega), if_neg (by omega), if_neg (by omega)] at hm
    obtain ⟨v, hv, -, hm⟩ := hm
    have hv := q_mIn hv
    have hv0 : ¬ v = 0 := fun hh => hv.off hh (by omega)
    rw [if_neg hv0] at hm
    obtain ⟨z7, e7, hx⟩ := rdb_g hx
    have hx : a = V (c + 1) z7.toNat := hx
    have hm : b = W 1 (7 * (n : Int) + y + 14).toNat := hm
    rw [hx, hm, ← e7, show (7 * (n : Int) + y + 14).toNat = 24 + 7 * n + (wr (y - 10)).toNat by omega]
    exact p6 _ (by omega)
theorem iAnd_255 (a : Int) : iAnd (iAnd a 255) 255 = iAnd a 255 := by
  unfold iAnd
  rw [Int32.ofInt_toInt, Int32.and_assoc, Int32.and_self]
theorem q_tapeN {x a b : Int} {V J W W2 Jm : Nat → Nat → Int} {R Rm : Nat → Nat → Nat} (hT : TP V W) (hx0 : 0 ≤ x) (hl : 4 * x + 4 ≤ W 0 4) (h4 : W2 4 = W 4) (hx : f_s_number x V J R a) (hm : f_m_tapeNumber x W2 Jm Rm b) : a = b := by
  obtain ⟨t1, t2, t3⟩ := hT
  unfold f_s_number at hx
  unfold f_m_tapeNumber at hm
  obtain ⟨bX, hbX, hx9⟩ := lop2_g hx
  obtain ⟨bM, hbM, hm9⟩ := lop2_g hm
  have key : ∀ (n m : Nat) (k acc : Int), 0 ≤ k ∧ k ≤ 4 → lop2 n bX k acc a → lop2 m bM (4 * x + k) acc b → a = b := by
    intro n
    induction n with
    | zero => intro m k acc _ hx; exact False.elim hx
    | succ n ih =>
      intro m k acc hk hx hm
      cases m with
      | zero => exact False.elim hm
      | succ m =>
        rw [lop2_s hbX] at hx
        rw [lop2_s hbM] at hm
        by_cases g : 4 ≤ k
        · rw [if_pos g] at hx
          rw [if_pos (by omega)] at hm
          have hx : a = acc := hx
          have hm : b = acc := hm
          rw [hx, hm]
        · rw [if_neg g] at hx
          rw [if_neg (by omega)] at hm
          obtain ⟨s, es, hx⟩ := rdb_g hx
          obtain ⟨u, eu, hx⟩ := rdb_g hx
          rw [wr_id ⟨by omega, by omega⟩] at eu
          obtain ⟨v, ev, hx⟩ := rdb_g hx
          rw [wr_id ⟨by omega, by omega⟩] at ev
          obtain ⟨w, hw, hx⟩ := hx
          have hw := q_at hw ⟨by omega, by omega⟩
          obtain ⟨z, ez, -, hx⟩ := rdb_g hx
          obtain ⟨o, eo, hx⟩ := rdb_g hx
          obtain ⟨s2, es2, hm⟩ := rdb_g hm
          obtain ⟨w2, ew2, -, hm⟩ := rdb_g hm
          obtain ⟨z2, ez2, -, hm⟩ := rdb_g hm
          obtain ⟨o2, eo2, hm⟩ := rdb_g hm
          have ei : v.toNat = (4 * x + k).toNat := by omega
          have e : o = o2 := by
            rw [← eo, ← eo2, ← es, ← es2, ← ez, ← ez2, hw, ← ew2, ei, t3 _ (by omega), iAnd_255, h4]
          subst e
          refine ih m (k + 1) o (by omega) hx ?_
          rw [show 4 * x + (k + 1) = 4 * x + k + 1 by omega]
          exact hm
  exact key _ _ 0 0 (by omega) hx9 (by rw [show 4 * x + 0 = 4 * x by omega]; exact hm9)
theorem e_check {x y a b : Int} {V V2 J W Jm X : Nat → Nat → Int} {R Rm : Nat → Nat → Nat} (h : WR R V W) (hx : f_s_check x y V J R (a, V2)) (hm : f_m_check x y W Jm Rm (b, X)) : a = b := by
  have hT := h.2.2.2.2
  have same : ∀ {c : Int} {V3 W3 : Nat → Nat → Int}, rtn (c, V3) (a, V2) → rtn (c, W3) (b, X) → a = b := fun h1 h2 => by
    simp only [rtn, Prod.mk.injEq] at h1 h2
    rw [h1.1, h2.1]
  unfold f_s_check at hx
  unfold f_m_check at hm
  obtain ⟨z1, h1, -, hx⟩ := hx
  obtain ⟨y1, k1, -, hm⟩ := hm
  obtain ⟨e1, q1⟩ := h.1.1.plant h1 k1
  subst e1
  by_cases g1 : z1 = 0
  · rw [if_pos g1] at hx hm; exact same hx hm
  rw [if_neg g1] at hx hm
  have q1 := q1.on g1
  obtain ⟨z4, h4, -, hx⟩ := hx
  obtain ⟨y4, k4, -, hm⟩ := hm
  have h4 := q_sWithin h4
  have e4 : z4 = y4 := h4.eq (q_mIn k4) Iff.rfl
  subst e4
  by_cases g4 : z4 = 0
  · rw [if_pos g4] at hx hm; exact same hx hm
  rw [if_neg g4] at hx hm
  have q4 := h4.on g4
  obtain ⟨z7, e7, r7, hx⟩ := rdb_g hx
  obtain ⟨y7, f7, -, hm⟩ := rdb_g hm
  have e : z7 = y7 := by rw [← e7, ← f7]; exact hT.1
  subst e
  obtain ⟨y8, f8, -, hm⟩ := rdb_g hm
  have e8 : y8 = z7 / 4 := by rw [← f8, iDiv_e ⟨by omega, by omega⟩ (by decide), Int.tdiv_eq_ediv_of_nonneg r7.1]
  obtain ⟨n, rfl⟩ : ∃ n : Nat, x = (n : Int) := ⟨x.toNat, by omega⟩
  have hn : n < 4 := by omega
  by_cases g10 : 4 * y ≤ z7
  · rw [if_pos g10] at hx
    rw [if_pos (by omega)] at hm
    obtain ⟨W9, f9, hm⟩ := rdb_g hm
    have w94 : W9 4 = W 4 := by rw [← f9, up2_c _ _ (by decide)]
    have w91 : W9 1 = W 1 := by rw [← f9, up2_c _ _ (by decide)]
    obtain ⟨bX, hbX, hx9⟩ := lop2_g hx
    obtain ⟨bM, hbM, hm9⟩ := lop1_g hm
    have key : ∀ (i m : Nat) (k : Int), 0 ≤ k → lop2 i bX k (-1) (a, V2) → lop1 m bM k (b, X) → a = b := by
      intro i
      induction i with
      | zero => intro m k _ hx; exact False.elim hx
      | succ i ih =>
        intro m k hk hx hm
        cases m with
        | zero => exact False.elim hm
        | succ m =>
          rw [lop2_s hbX] at hx
          rw [lop1_s hbM] at hm
          by_cases ga : y ≤ k
          · rw [if_pos ga] at hx hm
            obtain ⟨_, -, hx⟩ := rdb_g hx
            exact same hx hm
          · rw [if_neg ga] at hx hm
            rw [if_neg (fun hh => hh rfl)] at hx
            obtain ⟨w, hw, hx⟩ := hx
            obtain ⟨c, ec, hx⟩ := rdb_g hx
            obtain ⟨v, ev, hx⟩ := rdb_g hx
            have hx := jnk_d hx
            obtain ⟨w2, hw2, hm⟩ := hm
            obtain ⟨v2, ev2, hm⟩ := rdb_g hm
            have ew : w = w2 := q_tapeN hT hk (by omega) w94 hw hw2
            have evv : v = v2 := by
              rw [Int.toNat_natCast] at ec
              rw [← ev, ← ev2, ← ec, w91, show (7 * (n : Int) - k + 30).toNat = 24 + 7 * n + (-k + 6).toNat by omega]
              exact (h.1.1.1 n hn).2.2.2.2.2.2.1 _ (by omega)
            subst ew evv
            by_cases gc : w = v
            · rw [if_pos gc] at hx hm
              exact ih m (k + 1) (by omega) hx hm
            · rw [if_neg gc] at hx hm
              have hm : (b, X) = (k, W9) := hm
              simp only [Prod.mk.injEq] at hm
              have hx : lop2 i bX (k + 1) k (a, V2) := hx
              cases i with
              | zero => exact False.elim hx
              | succ i =>
                rw [lop2_s hbX] at hx
                by_cases gd : y ≤ k + 1
                · rw [if_pos gd] at hx
                  obtain ⟨_, -, hx⟩ := rdb_g hx
                  simp only [rtn, Prod.mk.injEq] at hx
                  rw [hx.1, hm.1]
                · rw [if_neg gd, if_pos (by omega)] at hx
                  obtain ⟨_, -, hx⟩ := rdb_g hx
                  simp only [rtn, Prod.mk.injEq] at hx
                  rw [hx.1, hm.1]
    exact key _ _ 0 (by omega) hx9 hm9
  · rw [if_neg g10] at hx
    rw [if_neg (by omega)] at hm
    exact same hx hm
