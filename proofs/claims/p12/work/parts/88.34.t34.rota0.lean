section
-- a rota asked: the tape, the landing (own work)
def rtP (A : Prop) (x y n d : Int) : Prop := A ∧ (1 ≤ x ∧ x ≤ 90) ∧ x ≤ n ∧ d ≤ 9915 ∧ ((0 ≤ y ∧ y ≤ 2) ∨ (10 ≤ y ∧ y ≤ 17))
theorem rx_rota {x y z a : Int} {V V2 J : Nat → Nat → Int} {R : Nat → Nat → Nat} (hz : R32 z) (h : f_s_rota x y z V J R (a, V2)) :
    (rtP ((0 ≤ x ∧ x < 4 ∧ ¬ V (1 + 3 + 2 * x.toNat) 0 = 0) ∧ ¬ dedX (V (1 + 3 + 2 * x.toNat))) y z (V 58 1) (V 1 3) ∧ V2 58 1 = 0) ∨ (¬ rtP ((0 ≤ x ∧ x < 4 ∧ ¬ V (1 + 3 + 2 * x.toNat) 0 = 0) ∧ ¬ dedX (V (1 + 3 + 2 * x.toNat))) y z (V 58 1) (V 1 3) ∧ V2 = V) := by
  generalize hA : ((0 ≤ x ∧ x < 4 ∧ ¬ V (1 + 3 + 2 * x.toNat) 0 = 0) ∧ ¬ dedX (V (1 + 3 + 2 * x.toNat))) = A
  have no : ¬ rtP A y z (V 58 1) (V 1 3) → ∀ c : Int, rtn (c, V) (a, V2) → (rtP A y z (V 58 1) (V 1 3) ∧ V2 58 1 = 0) ∨ (¬ rtP A y z (V 58 1) (V 1 3) ∧ V2 = V) := fun hn c h => by
    simp only [rtn, Prod.mk.injEq] at h
    exact Or.inr ⟨hn, h.2⟩
  unfold f_s_rota at h
  obtain ⟨z1, h1, -, h⟩ := h
  have h1 := q_sAlive h1
  rw [hA] at h1
  by_cases g1 : z1 = 0
  · rw [if_pos g1] at h
    exact no (fun hp => h1.off g1 hp.1) _ h
  rw [if_neg g1] at h
  have q1 := h1.on g1
  obtain ⟨z4, h4, -, h⟩ := h
  have h4 := q_sWithin h4
  by_cases g4 : z4 = 0
  · rw [if_pos g4] at h
    exact no (fun hp => h4.off g4 hp.2.1) _ h
  rw [if_neg g4] at h
  have q4 := h4.on g4
  obtain ⟨z7, e7, -, h⟩ := rdb_g h
  by_cases g7 : y ≤ z7
  · rw [if_pos g7] at h
    obtain ⟨z9, e9, h⟩ := rdb_g h
    by_cases g9 : z9 ≤ 9915
    · rw [if_pos g9] at h
      obtain ⟨z11, h11, -, h⟩ := h
      have h11 := q_sWithin h11
      by_cases g11 : ¬ z11 = 0
      · rw [if_pos g11] at h
        have q11 := h11.on g11
        refine Or.inl ⟨⟨q1, q4, by omega, by omega, Or.inl q11⟩, ?_⟩
        obtain ⟨z14, V14, -, -, h⟩ := h
        obtain ⟨V15, e15, h⟩ := rdb_g h
        have c15 : V15 58 1 = 0 := by rw [← e15, up2_s]
        by_cases g14 : z14 = 0
        · rw [if_pos g14] at h
          by_cases g3 : ¬ z = 0
          · rw [if_pos g3] at h
            obtain ⟨z18, V18, -, hF, h⟩ := h
            simp only [rtn, Prod.mk.injEq] at h
            rw [h.2, hF 58 1 (by omega)]
            exact c15
          · rw [if_neg g3] at h
            obtain ⟨_, -, -, h⟩ := rdb_g h
            simp only [rtn, Prod.mk.injEq] at h
            rw [h.2]
            exact c15
        · rw [if_neg g14] at h
          simp only [rtn, Prod.mk.injEq] at h
          rw [h.2]
          exact c15
      · rw [if_neg g11] at h
        have q11 := h11.off (by omega)
        obtain ⟨z20, e20, h⟩ := rdb_g h
        have w20 := wr_cases (z := z - 10) ⟨by omega, by omega⟩
        obtain ⟨z21, h21, -, h⟩ := h
        have h21 := q_sPlace h21
        by_cases g21 : ¬ z21 = 0
        · rw [if_pos g21] at h
          have q21 := h21.on g21
          refine Or.inl ⟨⟨q1, q4, by omega, by omega, Or.inr (by omega)⟩, ?_⟩
          obtain ⟨z24, V24, -, -, h⟩ := h
          obtain ⟨V15, e15, h⟩ := rdb_g h
          have c15 : V15 58 1 = 0 := by rw [← e15, up2_s]
          by_cases g14 : z24 = 0
          · rw [if_pos g14] at h
            by_cases g3 : ¬ z = 0
            · rw [if_pos g3] at h
              by_cases g4 : z < 10
              · rw [if_pos g4] at h
                obtain ⟨z18, V18, -, hF, h⟩ := h
                simp only [rtn, Prod.mk.injEq] at h
                rw [h.2, hF 58 1 (by omega)]
                exact c15
              · rw [if_neg g4] at h
                obtain ⟨_, -, h⟩ := h
                simp only [rtn, Prod.mk.injEq] at h
                rw [h.2]
                exact c15
            · rw [if_neg g3] at h
              obtain ⟨_, -, -, h⟩ := rdb_g h
              simp only [rtn, Prod.mk.injEq] at h
              rw [h.2]
              exact c15
          · rw [if_neg g14] at h
            simp only [rtn, Prod.mk.injEq] at h
            rw [h.2]
            exact c15
        · rw [if_neg g21] at h
          have q21 := h21.off (by omega)
          refine no (fun hp => ?_) _ h
          obtain ⟨-, -, -, -, hp | hp⟩ := hp
          · exact q11 hp
          · exact q21 (by omega)
    · rw [if_neg g9] at h
      exact no (fun hp => by obtain ⟨-, -, -, hp, -⟩ := hp; omega) _ h
  · rw [if_neg g7] at h
    exact no (fun hp => by obtain ⟨-, -, hp, -⟩ := hp; omega) _ h
theorem rm_rota {x y z a : Int} {W X J : Nat → Nat → Int} {R : Nat → Nat → Nat} (h : f_m_rota x y z W J R (a, X)) :
    (rtP ((0 ≤ x ∧ x < 4 ∧ bt (W 1 76) x = 1) ∧ ¬ bt (W 1 77) x = 1) y z (W 0 4) (W 1 79) ∧ RW W X) ∨ (¬ rtP ((0 ≤ x ∧ x < 4 ∧ bt (W 1 76) x = 1) ∧ ¬ bt (W 1 77) x = 1) y z (W 0 4) (W 1 79) ∧ X = W) := by
  generalize hA : ((0 ≤ x ∧ x < 4 ∧ bt (W 1 76) x = 1) ∧ ¬ bt (W 1 77) x = 1) = A
  have no : ¬ rtP A y z (W 0 4) (W 1 79) → ∀ c : Int, rtn (c, W) (a, X) → (rtP A y z (W 0 4) (W 1 79) ∧ RW W X) ∨ (¬ rtP A y z (W 0 4) (W 1 79) ∧ X = W) := fun hn c h => by
    simp only [rtn, Prod.mk.injEq] at h
    exact Or.inr ⟨hn, h.2⟩
  unfold f_m_rota at h
  obtain ⟨z1, h1, -, h⟩ := h
  have h1 := q_mLives h1
  rw [hA] at h1
  by_cases g1 : z1 = 0
  · rw [if_pos g1] at h
    exact no (fun hp => h1.off g1 hp.1) _ h
  rw [if_neg g1] at h
  have q1 := h1.on g1
  obtain ⟨_, -, -, h⟩ := rdb_g h
  obtain ⟨_, -, -, h⟩ := rdb_g h
  obtain ⟨z4, h4, -, h⟩ := h
  have h4 := q_mIn h4
  by_cases g4 : z4 = 0
  · rw [if_pos g4] at h
    exact no (fun hp => h4.off g4 hp.2.1) _ h
  rw [if_neg g4] at h
  have q4 := h4.on g4
  obtain ⟨z9, h9, -, h⟩ := h
  have h9 := q_mIn h9
  by_cases g9 : ¬ z9 = 0
  · rw [if_pos g9] at h
    have q9 := h9.on g9
    obtain ⟨z12, e12, -, h⟩ := rdb_g h
    by_cases g12 : z12 < y
    · rw [if_pos g12] at h
      exact no (fun hp => by obtain ⟨-, -, hp, -⟩ := hp; omega) _ h
    rw [if_neg g12] at h
    obtain ⟨z14, e14, h⟩ := rdb_g h
    by_cases g14 : z14 ≤ 9915
    · rw [if_pos g14] at h
      refine Or.inl ⟨⟨q1, q4, by omega, by omega, Or.inl q9⟩, ?_⟩
      obtain ⟨V1, e1, h⟩ := rdb_g h
      obtain ⟨V2, e2, h⟩ := rdb_g h
      obtain ⟨V3, e3, h⟩ := rdb_g h
      obtain ⟨V4, e4, h⟩ := rdb_g h
      obtain ⟨w, V5, -, hF, -, h⟩ := h
      obtain ⟨_, -, -, h⟩ := rdb_g h
      obtain ⟨_, -, -, h⟩ := rdb_g h
      have hV5 : ∀ k : Nat, k < 81 → V5 1 k = W 1 k := fun k _ => by rw [hF.rw 1 (by decide) (by decide), ← e4, up2_c _ _ (by decide), ← e3, up2_c _ _ (by decide), ← e2, up2_c _ _ (by decide), ← e1, up2_c _ _ (by decide)]
      exact rw_loop1 rfl hV5 h
    · rw [if_neg g14] at h
      exact no (fun hp => by obtain ⟨-, -, -, hp, -⟩ := hp; omega) _ h
  · rw [if_neg g9] at h
    have q9 := h9.off (by omega)
    obtain ⟨z10, h10, -, h⟩ := h
    have h10 := q_mIn h10
    by_cases g10 : z10 = 0
    · rw [if_pos g10] at h
      refine no (fun hp => ?_) _ h
      obtain ⟨-, -, -, -, hp | hp⟩ := hp
      · exact q9 hp
      · exact h10.off g10 hp
    rw [if_neg g10] at h
    have q10 := h10.on g10
    obtain ⟨z12, e12, -, h⟩ := rdb_g h
    by_cases g12 : z12 < y
    · rw [if_pos g12] at h
      exact no (fun hp => by obtain ⟨-, -, hp, -⟩ := hp; omega) _ h
    rw [if_neg g12] at h
    obtain ⟨z14, e14, h⟩ := rdb_g h
    by_cases g14 : z14 ≤ 9915
    · rw [if_pos g14] at h
      refine Or.inl ⟨⟨q1, q4, by omega, by omega, Or.inr q10⟩, ?_⟩
      obtain ⟨V1, e1, h⟩ := rdb_g h
      obtain ⟨V2, e2, h⟩ := rdb_g h
      obtain ⟨V3, e3, h⟩ := rdb_g h
      obtain ⟨V4, e4, h⟩ := rdb_g h
      obtain ⟨w, V5, -, hF, -, h⟩ := h
      obtain ⟨_, -, -, h⟩ := rdb_g h
      obtain ⟨_, -, -, h⟩ := rdb_g h
      have hV5 : ∀ k : Nat, k < 81 → V5 1 k = W 1 k := fun k _ => by rw [hF.rw 1 (by decide) (by decide), ← e4, up2_c _ _ (by decide), ← e3, up2_c _ _ (by decide), ← e2, up2_c _ _ (by decide), ← e1, up2_c _ _ (by decide)]
      refine lop2_k (fun _ V => ∀ k : Nat, k < 81 → V 1 k = W 1 k) (fun r : Int × (Nat → Nat → Int) => RW W r.2) (fun rc hrc z V hV r h => ?_) _ _ _ hV5 _ h
      obtain ⟨_, -, -, h⟩ := rdb_g h
      obtain ⟨_, -, -, h⟩ := rdb_g h
      obtain ⟨_, -, -, h⟩ := rdb_g h
      obtain ⟨_, -, -, h⟩ := rdb_g h
      by_cases g : z = 0
      · rw [if_pos g] at h
        obtain ⟨V9, e9, h⟩ := rdb_g h
        obtain ⟨_, -, h⟩ := rdb_g h
        simp only [rtn] at h
        subst h
        show RW W V9
        exact ⟨by rw [← e9, up2_s], fun k hk => by rw [← e9, up2_c _ _ (by decide)]; exact hV k hk⟩
      · rw [if_neg g] at h
        split at h
        · obtain ⟨V9, e9, h⟩ := rdb_g h
          have hV9 : RW W V9 := ⟨by rw [← e9, up2_s], fun k hk => by rw [← e9, up2_c _ _ (by decide)]; exact hV k hk⟩
          refine lop2_k (fun _ _ => True) (fun r : Int × (Nat → Nat → Int) => RW W r.2) (fun rc2 hrc2 za zb _ r h => ?_) _ _ _ trivial _ h
          split at h
          · simp only [rtn] at h
            subst h
            exact hV9
          · obtain ⟨_, -, -, h⟩ := rdb_g h
            have h := jnk_d h
            split at h
            · obtain ⟨_, -, h⟩ := rdb_g h
              exact hrc2 _ _ trivial _ h
            · obtain ⟨_, -, h⟩ := rdb_g h
              exact hrc2 _ _ trivial _ h
        · obtain ⟨_, V2, -, hF2, -, h⟩ := h
          have hV2 : ∀ k : Nat, k < 81 → V2 1 k = W 1 k := fun k hk => by rw [hF2.rw 1 (by decide) (by decide)]; exact hV k hk
          obtain ⟨_, -, -, h⟩ := rdb_g h
          split at h
          · exact hrc _ _ hV2 _ h
          · obtain ⟨_, V3, -, hF3, -, h⟩ := h
            have hV3 : ∀ k : Nat, k < 81 → V3 1 k = W 1 k := fun k hk => by rw [hF3.rw 1 (by decide) (by decide)]; exact hV2 k hk
            obtain ⟨_, -, -, h⟩ := rdb_g h
            obtain ⟨_, -, -, h⟩ := rdb_g h
            split at h
            · exact hrc _ _ hV3 _ h
            · exact hrc _ _ hV3 _ h
    · rw [if_neg g14] at h
      exact no (fun hp => by obtain ⟨-, -, -, hp, -⟩ := hp; omega) _ h
theorem t_rota {x y z a b : Int} {V V2 J W Jm X : Nat → Nat → Int} {R Rm : Nat → Nat → Nat} (h : WR R V W) (hz : R32 z) (hx : f_s_rota x y z V J R (a, V2)) (hm : f_m_rota x y z W Jm Rm (b, X)) : TP V2 X ∧ ∀ k : Nat, k < 81 → X 1 k = W 1 k := by
  have e1 := h.1.1.isA (x := x)
  have e2 : V 58 1 = W 0 4 := h.2.2.2.2.1
  have e3 : V 1 3 = W 1 79 := h.1.1.2.2.2.1
  have rx := rx_rota hz hx
  have rm := rm_rota hm
  rw [e2, e3] at rx
  rcases rx with ⟨p1, p2⟩ | ⟨p1, p2⟩
  · have p3 : rtP ((0 ≤ x ∧ x < 4 ∧ bt (W 1 76) x = 1) ∧ ¬ bt (W 1 77) x = 1) y z (W 0 4) (W 1 79) := ⟨e1.mp p1.1, p1.2⟩
    rcases rm with ⟨q1, q2⟩ | ⟨q1, q2⟩
    · exact ⟨TP.nil p2 q2.1, q2.2⟩
    · exact absurd p3 q1
  · rcases rm with ⟨q1, q2⟩ | ⟨q1, q2⟩
    · exact absurd ⟨e1.mpr q1.1, q1.2⟩ p1
    · rw [p2, q2]
      exact ⟨h.2.2.2.2, fun _ _ => rfl⟩
theorem FBm.kt {m : Nat} {W X : Nat → Nat → Int} (h : FBm m W X) (ht : ∀ i : Nat, i < 17 → 11 ≤ i → m.testBit (64 + i) = false) : ∀ i : Nat, 11 ≤ i → i ≤ 16 → X i = W i := fun i h1 h2 => h.rw i (by omega) (ht i (by omega) h1)
end
section
-- answers: gives, plantIs, check (own work)
theorem e_gives {x y a b : Int} {V V2 J W Jm X : Nat → Nat → Int} {R Rm : Nat → Nat → Nat} (h : WR R V W) (hx : f_s_gives x y V J R (a, V2)) (hm : f_m_gives x y W Jm Rm (b, X)) : a = b := by
  have same : ∀ {c : Int} {V3 W3 : Nat → Nat → Int}, rtn (c, V3) (a, V2) → rtn (c, W3) (b, X) → a = b := fun h1 h2 => by
    simp only [rtn, Prod.mk.injEq] at h1 h2
    rw [h1.1, h2.1]
  unfold f_s_gives at hx
  unfold f_m_gives at hm
  obtain ⟨z1, h1, -, hx⟩ := hx
  obtain ⟨y1, k1, -, hm⟩ := hm
  obtain ⟨e1, q1⟩ := h.1.1.person h1 k1
  subst e1
  by_cases g1 : z1 = 0
  · rw [if_pos g1] at hx hm; exact same hx hm
  rw [if_neg g1] at hx hm
  have q1 := q1.on g1
  obtain ⟨z4, h4, -, hx⟩ := hx
  obtain ⟨y4, k4, -, hm⟩ := hm
  obtain ⟨e4, q4⟩ := h.1.1.plant h4 k4
  subst e4
  by_cases g4 : z4 = 0
  · rw [if_neg (fun hh => hh g4)] at hx hm; exact same hx hm
  rw [if_pos g4] at hx hm
  have q4 := q4.on g4
  obtain ⟨z7, h7, -, hx⟩ := hx
  obtain ⟨y7, k7, -, hm⟩ := hm
  obtain ⟨e7, q7⟩ := h.1.1.alive h7 k7
  subst e7
  by_cases g7 : z7 = 0
  · rw [if_pos g7] at hx hm; exact same hx hm
  rw [if_neg g7] at hx hm
  obtain ⟨z10, V10, hg, -, -, hx⟩ := hx
  obtain ⟨_, -, -, hm⟩ := rdb_g hm
  obtain ⟨_, -, -, hm⟩ := rdb_g hm
  obtain ⟨z12, V12, hc, -, -, hm⟩ := hm
  simp only [rtn, Prod.mk.injEq] at hx hm
  rw [hx.1, hm.1]
  have ht : V (1 + 3 + 2 * y.toNat) 0 = 1 := by
    have e := (h.1.1.1 y.toNat (by omega)).1
    rw [show ((y.toNat : Nat) : Int) = y by omega] at e
    rw [e]
    exact q4.2.2
  exact (d_gift (Or.inl rfl) ⟨q1.1, q1.2.1⟩ ⟨q4.1, q4.2.1⟩ h.1.1 h.2.2.2.1.1 ht hg hc).1
theorem e_plantIs {x y a b : Int} {V J W Jm : Nat → Nat → Int} {R Rm : Nat → Nat → Nat} (hy : R32 y) (h : WR R V W) (hx : f_s_plantIs x y V J R a) (hm : f_m_plantIs x y W Jm Rm b) : a = b := by
  unfold f_s_plantIs at hx
  unfold f_m_plantIs at hm
  obtain ⟨z1, h1, -, hx⟩ := hx
  obtain ⟨y1, k1, -, hm⟩ := hm
  obtain ⟨e1, q1⟩ := h.1.1.plant h1 k1
  subst e1
  by_cases g1 : z1 = 0
  · rw [if_neg (fun hh => hh g1)] at hx hm
    have hx : a = -1 := hx
    have hm : b = -1 := hm
    rw [hx, hm]
  rw [if_pos g1] at hx hm
  have q1 := q1.on g1
  obtain ⟨n, rfl⟩ : ∃ n : Nat, x = (n : Int) := ⟨x.toNat, by omega⟩
  have hn : n < 4 := by omega
  obtain ⟨c, ec, hx⟩ := rdb_g hx
  rw [Int.toNat_natCast] at ec
  have hP := h.1.1.1 n hn
  rw [ec] at hP
  obtain ⟨p0, p1, p2, p3, p4, p5, p6, p7, p8, p9⟩ := hP
  have ht : V c 0 = 1 := p0.trans q1.2.2
  rw [show ((n : Int) + 4).toNat = 4 + n by omega, show ((n : Int) + 8).toNat = 8 + n by omega, show ((n : Int) + 12).toNat = 12 + n by omega, show ((n : Int) + 16).toNat = 16 + n by omega, show ((n : Int) + 20).toNat = 20 + n by omega, Int.toNat_natCast] at hm
  obtain ⟨z5, e5, hx⟩ := rdb_g hx
  obtain ⟨z6, h6, -, hx⟩ := hx
  have h6 := q_sPlace h6
  have w5 := wr_cases (z := y - 10) ⟨by omega, by omega⟩
  by_cases g6 : z6 = 0
  · rw [if_pos g6] at hx
    have q6 := h6.off g6
    by_cases c0 : y = 0
    · rw [if_pos c0] at hx hm
      obtain ⟨w, ew, -, hm⟩ := rdb_g hm
      have hx : a = V c 1 := hx
      have hm : b = w := hm
      rw [hx, hm, ← ew]; exact p1
    rw [if_neg c0] at hx hm
    by_cases c1 : y = 1
    · rw [if_pos c1] at hx hm
      obtain ⟨w, ew, -, hm⟩ := rdb_g hm
      have hx : a = V c 2 := hx
      have hm : b = w := hm
      rw [hx, hm, ← ew]; exact p2
    rw [if_neg c1] at hx hm
    by_cases c2 : y = 2
    · rw [if_pos c2] at hx hm
      obtain ⟨w, ew, -, hm⟩ := rdb_g hm
      have hx : a = V c 3 := hx
      have hm : b = w := hm
      rw [hx, hm, ← ew]; exact p3
    rw [if_neg c2] at hx hm
    by_cases c3 : y = 3
    · rw [if_pos c3] at hx hm
      obtain ⟨w, ew, -, hm⟩ := rdb_g hm
      have hx : a = V c 4 := hx
      have hm : b = w := hm
      rw [hx, hm, ← ew]; exact p4
    rw [if_neg c3] at hx hm
    by_cases c4 : y = 4
    · rw [if_pos c4] at hx hm
      obtain ⟨w, ew, -, hm⟩ := rdb_g hm
      have hx : a = V c 5 := hx
      have hm : b = w := hm
      rw [hx, hm, ← ew]; exact p5
    rw [if_neg c4] at hx hm
    by_cases c5 : y = 5
    · rw [if_pos c5] at hx hm
      obtain ⟨u, hu, -, hx⟩ := hx
      obtain ⟨v, hv, -, hm⟩ := hm
      have hu := q_sDead hu
      have hv := q_mLives hv
      by_cases gd : dedX (V c)
      · have hu : u = 1 := by
          rcases hu with ⟨hu, -⟩ | ⟨-, hu⟩
          · exact hu
          · exact absurd gd hu
        have hv : v = 0 := by
          rcases hv with ⟨-, hv⟩ | ⟨hv, -⟩
          · exact absurd (p8.mpr gd) hv.2
          · exact hv
        rw [if_neg (by omega)] at hx
        rw [if_pos hv] at hm
        have hx : a = 1 := hx
        have hm : b = 1 := hm
        rw [hx, hm]
      · have hu : u = 0 := by
          rcases hu with ⟨-, hu⟩ | ⟨hu, -⟩
          · exact absurd hu gd
          · exact hu
        have hv : v = 1 := by
          rcases hv with ⟨hv, -⟩ | ⟨-, hv⟩
          · exact hv
          · exact absurd ⟨q1, fun hh => gd (p8.mp hh)⟩ hv
        rw [if_pos hu] at hx
        rw [if_neg (by omega)] at hm
        obtain ⟨_, -, -, hm⟩ := rdb_g hm
        obtain ⟨_, -, -, hm⟩ := rdb_g hm
        have hx : a = 0 := hx
        have hm : b = 0 := hm
        rw [hx, hm]
    rw [if_neg c5] at hx hm
    by_cases c6 : y = 6
    · rw [if_pos c6] at hx hm
      obtain ⟨u, hu, hx⟩ := hx
      have hx : a = u := hx
      have hm : b = W 1 (20 + n) := hm
      rw [hx, hm]
      unfold f_s_cardOf at hu
      obtain ⟨t, et, -, hu⟩ := rdb_g hu
      rcases p7 ht with ⟨r1, r2⟩ | ⟨r1, r2, r3⟩ | ⟨r1, r2, r3⟩
      · rw [if_neg (by omega)] at hu
        have hu : u = -2 := hu
        rw [hu, r2]
      · rw [if_pos (by omega)] at hu
        obtain ⟨s, es, hu⟩ := rdb_g hu
        rw [if_neg (by omega)] at hu
        have hu : u = -3 := hu
        rw [hu, r3]
      · rw [if_pos (by omega)] at hu
        obtain ⟨s, es, hu⟩ := rdb_g hu
        rw [if_pos (by omega)] at hu
        have hu : u = s := hu
        rw [hu, ← es, r3]
    rw [if_neg c6] at hx hm
    obtain ⟨v, hv, -, hm⟩ := hm
    have hv := q_mIn hv
    have hv0 : v = 0 := by
      rcases hv with ⟨-, hv⟩ | ⟨hv, -⟩
      · exfalso; omega
      · exact hv
    rw [if_pos hv0] at hm
    have hx : a = -1 := hx
    have hm : b = -1 := hm
    rw [hx, hm]
  · rw [if_neg g6] at hx
    have q6 := h6.on g6
    have ey : y - 10 = z5 := by omega
    rw [if_neg (by omega), if_neg (by omega), if_neg (by omega), if_neg (by omega), if_neg (by omega), if_neg (by omega), if_neg (by omega)] at hm
    obtain ⟨v, hv, -, hm⟩ := hm
    have hv := q_mIn hv
    have hv0 : ¬ v = 0 := fun hh => hv.off hh (by omega)
    rw [if_neg hv0] at hm
    obtain ⟨z7, e7, hx⟩ := rdb_g hx
    have hx : a = V (c + 1) z7.toNat := hx
    have hm : b = W 1 (7 * (n : Int) + y + 14).toNat := hm
    rw [hx, hm, ← e7, show (7 * (n : Int) + y + 14).toNat = 24 + 7 * n + (wr (y - 10)).toNat by omega]
    exact p6 _ (by omega)
theorem iAnd_255 (a : Int) : iAnd (iAnd a 255) 255 = iAnd a 255 := by
  unfold iAnd
  rw [Int32.ofInt_toInt, Int32.and_assoc, Int32.and_self]
theorem q_tapeN {x a b : Int} {V J W W2 Jm : Nat → Nat → Int} {R Rm : Nat → Nat → Nat} (hT : TP V W) (hx0 : 0 ≤ x) (hl : 4 * x + 4 ≤ W 0 4) (h4 : W2 4 = W 4) (hx : f_s_number x V J R a) (hm : f_m_tapeNumber x W2 Jm Rm b) : a = b := by
  obtain ⟨t1, t2, t3⟩ := hT
  unfold f_s_number at hx
  unfold f_m_tapeNumber at hm
  obtain ⟨bX, hbX, hx9⟩ := lop2_g hx
  obtain ⟨bM, hbM, hm9⟩ := lop2_g hm
  have key : ∀ (n m : Nat) (k acc : Int), 0 ≤ k ∧ k ≤ 4 → lop2 n bX k acc a → lop2 m bM (4 * x + k) acc b → a = b := by
    intro n
    induction n with
    | zero => intro m k acc _ hx; exact False.elim hx
    | succ n ih =>
      intro m k acc hk hx hm
      cases m with
      | zero => exact False.elim hm
      | succ m =>
        rw [lop2_s hbX] at hx
        rw [lop2_s hbM] at hm
        by_cases g : 4 ≤ k
        · rw [if_pos g] at hx
          rw [if_pos (by omega)] at hm
          have hx : a = acc := hx
          have hm : b = acc := hm
          rw [hx, hm]
        · rw [if_neg g] at hx
          rw [if_neg (by omega)] at hm
          obtain ⟨s, es, hx⟩ := rdb_g hx
          obtain ⟨u, eu, hx⟩ := rdb_g hx
          rw [wr_id ⟨by omega, by omega⟩] at eu
          obtain ⟨v, ev, hx⟩ := rdb_g hx
          rw [wr_id ⟨by omega, by omega⟩] at ev
          obtain ⟨w, hw, hx⟩ := hx
          have hw := q_at hw ⟨by omega, by omega⟩
          obtain ⟨z, ez, -, hx⟩ := rdb_g hx
          obtain ⟨o, eo, hx⟩ := rdb_g hx
          obtain ⟨s2, es2, hm⟩ := rdb_g hm
          obtain ⟨w2, ew2, -, hm⟩ := rdb_g hm
          obtain ⟨z2, ez2, -, hm⟩ := rdb_g hm
          obtain ⟨o2, eo2, hm⟩ := rdb_g hm
          have ei : v.toNat = (4 * x + k).toNat := by omega
          have e : o = o2 := by
            rw [← eo, ← eo2, ← es, ← es2, ← ez, ← ez2, hw, ← ew2, ei, t3 _ (by omega), iAnd_255, h4]
          subst e
          refine ih m (k + 1) o (by omega) hx ?_
          rw [show 4 * x + (k + 1) = 4 * x + k + 1 by omega]
          exact hm
  exact key _ _ 0 0 (by omega) hx9 (by rw [show 4 * x + 0 = 4 * x by omega]; exact hm9)
theorem e_check {x y a b : Int} {V V2 J W Jm X : Nat → Nat → Int} {R Rm : Nat → Nat → Nat} (h : WR R V W) (hx : f_s_check x y V J R (a, V2)) (hm : f_m_check x y W Jm Rm (b, X)) : a = b := by
  have hT := h.2.2.2.2
  have same : ∀ {c : Int} {V3 W3 : Nat → Nat → Int}, rtn (c, V3) (a, V2) → rtn (c, W3) (b, X) → a = b := fun h1 h2 => by
    simp only [rtn, Prod.mk.injEq] at h1 h2
    rw [h1.1, h2.1]
  unfold f_s_check at hx
  unfold f_m_check at hm
  obtain ⟨z1, h1, -, hx⟩ := hx
  obtain ⟨y1, k1, -, hm⟩ := hm
  obtain ⟨e1, q1⟩ := h.1.1.plant h1 k1
  subst e1
  by_cases g1 : z1 = 0
  · rw [if_pos g1] at hx hm; exact same hx hm
  rw [if_neg g1] at hx hm
  have q1 := q1.on g1
  obtain ⟨z4, h4, -, hx⟩ := hx
  obtain ⟨y4, k4, -, hm⟩ := hm
  have h4 := q_sWithin h4
  have e4 : z4 = y4 := h4.eq (q_mIn k4) Iff.rfl
  subst e4
  by_cases g4 : z4 = 0
  · rw [if_pos g4] at hx hm; exact same hx hm
  rw [if_neg g4] at hx hm
  have q4 := h4.on g4
  obtain ⟨z7, e7, r7, hx⟩ := rdb_g hx
  obtain ⟨y7, f7, -, hm⟩ := rdb_g hm
  have e : z7 = y7 := by rw [← e7, ← f7]; exact hT.1
  subst e
  obtain ⟨y8, f8, -, hm⟩ := rdb_g hm
  have e8 : y8 = z7 / 4 := by rw [← f8, iDiv_e ⟨by omega, by omega⟩ (by decide), Int.tdiv_eq_ediv_of_nonneg r7.1]
  obtain ⟨n, rfl⟩ : ∃ n : Nat, x = (n : Int) := ⟨x.toNat, by omega⟩
  have hn : n < 4 := by omega
  by_cases g10 : 4 * y ≤ z7
  · rw [if_pos g10] at hx
    rw [if_pos (by omega)] at hm
    obtain ⟨W9, f9, hm⟩ := rdb_g hm
    have w94 : W9 4 = W 4 := by rw [← f9, up2_c _ _ (by decide)]
    have w91 : W9 1 = W 1 := by rw [← f9, up2_c _ _ (by decide)]
    obtain ⟨bX, hbX, hx9⟩ := lop2_g hx
    obtain ⟨bM, hbM, hm9⟩ := lop1_g hm
    have key : ∀ (i m : Nat) (k : Int), 0 ≤ k → lop2 i bX k (-1) (a, V2) → lop1 m bM k (b, X) → a = b := by
      intro i
      induction i with
      | zero => intro m k _ hx; exact False.elim hx
      | succ i ih =>
        intro m k hk hx hm
        cases m with
        | zero => exact False.elim hm
        | succ m =>
          rw [lop2_s hbX] at hx
          rw [lop1_s hbM] at hm
          by_cases ga : y ≤ k
          · rw [if_pos ga] at hx hm
            obtain ⟨_, -, hx⟩ := rdb_g hx
            exact same hx hm
          · rw [if_neg ga] at hx hm
            rw [if_neg (fun hh => hh rfl)] at hx
            obtain ⟨w, hw, hx⟩ := hx
            obtain ⟨c, ec, hx⟩ := rdb_g hx
            obtain ⟨v, ev, hx⟩ := rdb_g hx
            have hx := jnk_d hx
            obtain ⟨w2, hw2, hm⟩ := hm
            obtain ⟨v2, ev2, hm⟩ := rdb_g hm
            have ew : w = w2 := q_tapeN hT hk (by omega) w94 hw hw2
            have evv : v = v2 := by
              rw [Int.toNat_natCast] at ec
              rw [← ev, ← ev2, ← ec, w91, show (7 * (n : Int) - k + 30).toNat = 24 + 7 * n + (-k + 6).toNat by omega]
              exact (h.1.1.1 n hn).2.2.2.2.2.2.1 _ (by omega)
            subst ew evv
            by_cases gc : w = v
            · rw [if_pos gc] at hx hm
              exact ih m (k + 1) (by omega) hx hm
            · rw [if_neg gc] at hx hm
              have hm : (b, X) = (k, W9) := hm
              simp only [Prod.mk.injEq] at hm
              have hx : lop2 i bX (k + 1) k (a, V2) := hx
              cases i with
              | zero => exact False.elim hx
              | succ i =>
                rw [lop2_s hbX] at hx
                by_cases gd : y ≤ k + 1
                · rw [if_pos gd] at hx
                  obtain ⟨_, -, hx⟩ := rdb_g hx
                  simp only [rtn, Prod.mk.injEq] at hx
                  rw [hx.1, hm.1]
                · rw [if_neg gd, if_pos (by omega)] at hx
                  obtain ⟨_, -, hx⟩ := rdb_g hx
                  simp only [rtn, Prod.mk.injEq] at hx
                  rw [hx.1, hm.1]
    exact key _ _ 0 (by omega) hx9 hm9
  · rw [if_neg g10] at hx
    rw [if_neg (by omega)] at hm
    exact same hx hm
end
section
-- answers: tried (own work)
theorem k_dries {l : Nat} {s : Int} {V J X : Nat → Nat → Int} {R : Nat → Nat → Nat} (hl : l < 4) (h : f_m_dries (l : Int) s V J R X) : ∀ k : Nat, 52 ≤ k → k ≠ 77 → X 1 k = V 1 k := by
  unfold f_m_dries at h
  obtain ⟨z1, -, -, h⟩ := rdb_g h
  obtain ⟨z2, -, -, h⟩ := rdb_g h
  obtain ⟨V3, -, F3, h⟩ := h
  obtain ⟨z4, V4, -, F4, -, h⟩ := h
  have e4 : V4 1 = V 1 := by rw [F4.rw 1 (by decide) (by decide), F3.rw 1 (by decide) (by decide)]
  have tail : ∀ (V9 V5 : Nat → Nat → Int) (w d r : Int), V5 1 = V 1 → up2 V5 1 ((l : Int) + 4).toNat w = V9 → dTail l w d r V9 X → ∀ k : Nat, 52 ≤ k → k ≠ 77 → X 1 k = V 1 k := fun V9 V5 w d r e5 e9 ht k k1 k2 => by
    obtain ⟨_, _, -, -, -, -, -, tof⟩ := q_dTail hl ht
    rw [tof k (by omega) (by omega) k2 (by omega), ← e9, up2_n _ _ (Or.inr (by omega)), e5]
  by_cases g : s = 0
  · rw [if_pos g] at h
    obtain ⟨_, -, -, h⟩ := rdb_g h
    obtain ⟨w, -, h⟩ := h
    obtain ⟨V9, e9, h⟩ := rdb_g h
    exact tail _ _ _ _ _ e4 e9 h
  · rw [if_neg g] at h
    obtain ⟨_, V5, -, F5, -, h⟩ := h
    obtain ⟨_, -, -, h⟩ := rdb_g h
    obtain ⟨w, -, h⟩ := h
    obtain ⟨V9, e9, h⟩ := rdb_g h
    exact tail _ _ _ _ _ (by rw [F5.rw 1 (by decide) (by decide), e4]) e9 h
theorem k_draws {a : Int} {V J X : Nat → Nat → Int} {R : Nat → Nat → Nat} (h : f_m_draws V J R (a, X)) : ∀ i k : Nat, i ≠ 1 ∨ k ≠ 80 → X i k = V i k := by
  unfold f_m_draws at h
  obtain ⟨_, -, h⟩ := rdb_g h
  obtain ⟨_, -, h⟩ := rdb_g h
  obtain ⟨_, -, h⟩ := rdb_g h
  obtain ⟨z4, -, -, h⟩ := rdb_g h
  obtain ⟨V5, e5, h⟩ := rdb_g h
  obtain ⟨_, -, -, h⟩ := rdb_g h
  simp only [rtn, Prod.mk.injEq] at h
  intro i k hik
  rw [h.2, ← e5, up2_n _ _ hik]
/-- cups given since -/
def G19 (W X : Nat → Nat → Int) : Prop := ∀ p : Nat, p < 8 → X 19 p = wr (X 1 (68 + p) - W 1 (68 + p))
theorem g19_waters {p l : Nat} {W V J X : Nat → Nat → Int} {R : Nat → Nat → Nat} (hp : p < 8) (hl : l < 4) (hG : G19 W V) (h : f_m_waters (p : Int) (l : Int) V J R X) : G19 W X := by
  unfold f_m_waters at h
  obtain ⟨g, V1, -, F1, -, h⟩ := h
  obtain ⟨_, -, -, h⟩ := rdb_g h
  obtain ⟨_, -, -, h⟩ := rdb_g h
  obtain ⟨w, -, h⟩ := h
  obtain ⟨V6, e6, h⟩ := rdb_g h
  obtain ⟨z7, e7, h⟩ := rdb_g h
  obtain ⟨z8, e8, h⟩ := rdb_g h
  obtain ⟨V9, e9, h⟩ := rdb_g h
  obtain ⟨_, -, h⟩ := rdb_g h
  obtain ⟨_, -, h⟩ := rdb_g h
  obtain ⟨V12, e12, h⟩ := rdb_g h
  obtain ⟨_, -, h⟩ := rdb_g h
  obtain ⟨_, -, h⟩ := rdb_g h
  obtain ⟨_, -, h⟩ := rdb_g h
  obtain ⟨V16, e16, h⟩ := rdb_g h
  obtain ⟨z17, e17, h⟩ := rdb_g h
  obtain ⟨z18, e18, h⟩ := rdb_g h
  obtain ⟨V19, e19, h⟩ := rdb_g h
  rw [show ((l : Int) + 4).toNat = 4 + l by omega] at e6
  rw [show ((p : Int) + 68).toNat = 68 + p by omega] at e7 e9
  rw [Int.toNat_natCast] at e17 e19
  have hG19 : G19 W V19 := by
    intro q hq
    have v6 : ∀ k : Nat, k ≠ 4 + l → V6 1 k = V 1 k := fun k hk => by rw [← e6, up2_n _ _ (Or.inr hk), F1.rw 1 (by decide) (by decide)]
    have v16 : V16 19 = V 19 := by rw [← e16, up2_c _ _ (by decide), ← e12, up2_c _ _ (by decide), ← e9, up2_c _ _ (by decide), ← e6, up2_c _ _ (by decide), F1.rw 19 (by decide) (by decide)]
    have r1 : V19 1 = up1 (V6 1) (68 + p) z8 := by rw [← e19, up2_c _ _ (by decide), ← e16, up2_c _ _ (by decide), ← e12, up2_c _ _ (by decide), ← e9, up2_row]
    have r19 : V19 19 = up1 (V 19) p z18 := by rw [← e19, up2_row, v16]
    rw [r1, r19]
    by_cases e : q = p
    · rw [e, up1_at, up1_at, ← e18, ← e17, v16, ← e8, ← e7, v6 _ (by omega), hG p hp, wr_add, Int.sub_eq_add_neg (a := wr _), wr_add]
      congr 1
      omega
    · rw [up1_of e, up1_of (by omega), v6 _ (by omega)]
      exact hG q hq
  by_cases g1 : g ≤ 0
  · rw [if_pos g1] at h
    have h : X = V19 := h
    rw [h]; exact hG19
  · rw [if_neg g1] at h
    obtain ⟨z21, -, h⟩ := rdb_g h
    by_cases g2 : z21 = (-2)
    · rw [if_pos g2] at h
      have h : X = V19 := h
      rw [h]; exact hG19
    · rw [if_neg g2] at h
      obtain ⟨_, -, h⟩ := rdb_g h
      obtain ⟨V24, e24, h⟩ := rdb_g h
      have h : X = V24 := h
      rw [h]
      intro q hq
      rw [← e24, up2_n _ _ (Or.inl (by decide)), up2_n _ _ (Or.inr (by omega))]
      exact hG19 q hq
theorem g19_keep {W V X : Nat → Nat → Int} (hG : G19 W V) (h1 : ∀ p : Nat, p < 8 → X 1 (68 + p) = V 1 (68 + p)) (h19 : ∀ p : Nat, p < 8 → X 19 p = V 19 p) : G19 W X := fun p hp => by
  rw [h1 p hp, h19 p hp]
  exact hG p hp
theorem g19_day {W V J X : Nat → Nat → Int} {R : Nat → Nat → Nat} (hG : G19 W V) (h : f_m_dayGoes V J R X) : G19 W X := by
  unfold f_m_dayGoes at h
  refine lop2_k (fun z V => 0 ≤ z ∧ G19 W V) (fun X => G19 W X) (fun rc hrc z V1 hV1 r h => ?_) _ _ _ ⟨by omega, hG⟩ _ h
  obtain ⟨hz, hV1⟩ := hV1
  by_cases g : 8 ≤ z
  · rw [if_pos g] at h
    refine lop2_k (fun z V => 0 ≤ z ∧ G19 W V) (fun X => G19 W X) (fun rc2 hrc2 z2 V2 hV2 r h => ?_) _ _ _ ⟨by omega, hV1⟩ _ h
    obtain ⟨hz2, hV2⟩ := hV2
    by_cases g2 : 4 ≤ z2
    · rw [if_pos g2] at h
      obtain ⟨_, -, h⟩ := rdb_g h
      obtain ⟨_, -, h⟩ := rdb_g h
      obtain ⟨V3, e3, h⟩ := rdb_g h
      have h : r = V3 := h
      rw [h]
      exact g19_keep hV2 (fun p hp => by rw [← e3, up2_n _ _ (Or.inr (by omega))]) (fun p hp => by rw [← e3, up2_c _ _ (by decide)])
    · rw [if_neg g2] at h
      obtain ⟨w, -, -, h⟩ := h
      have h := jnk_d h
      by_cases g3 : ¬ w = 0
      · rw [if_pos g3] at h
        obtain ⟨_, -, -, h⟩ := rdb_g h
        obtain ⟨_, -, -, h⟩ := rdb_g h
        obtain ⟨s, V4, h4, -, h⟩ := h
        have d4 := k_draws h4
        have h := jnk_if h
        obtain ⟨_, -, h⟩ := rdb_g h
        have h := jnk_if h
        obtain ⟨_, -, h⟩ := rdb_g h
        obtain ⟨V5, e5, h⟩ := rdb_g h
        obtain ⟨V6, h6, F6, h⟩ := h
        obtain ⟨l, rfl⟩ : ∃ l : Nat, z2 = (l : Int) := ⟨z2.toNat, by omega⟩
        have d6 := k_dries (by omega) h6
        refine hrc2 _ _ ⟨by omega, g19_keep hV2 (fun p hp => ?_) (fun p hp => ?_)⟩ _ h
        · rw [d6 _ (by omega) (by omega), ← e5, up2_c _ _ (by decide), d4 _ _ (Or.inr (by omega))]
        · rw [F6.rw 19 (by decide) (by decide), ← e5, up2_c _ _ (by decide), d4 _ _ (Or.inl (by decide))]
      · rw [if_neg g3] at h
        exact hrc2 _ _ ⟨by omega, hV2⟩ _ h
  · rw [if_neg g] at h
    obtain ⟨w, -, -, h⟩ := h
    have h := jnk_d h
    by_cases g3 : w = 0
    · rw [if_pos g3] at h
      exact hrc _ _ ⟨by omega, hV1⟩ _ h
    · rw [if_neg g3] at h
      obtain ⟨s, V4, h4, -, h⟩ := h
      have d4 := k_draws h4
      have hV4 : G19 W V4 := g19_keep hV1 (fun p hp => d4 _ _ (Or.inr (by omega))) (fun p hp => d4 _ _ (Or.inl (by decide)))
      obtain ⟨t, -, h⟩ := rdb_g h
      by_cases g4 : s < t
      · rw [if_pos g4] at h
        refine lop2_k (fun z V => 0 ≤ z ∧ G19 W V) (fun X => G19 W X) (fun rc2 hrc2 z2 V2 hV2 r h => ?_) _ _ _ ⟨by omega, hV4⟩ _ h
        obtain ⟨hz2, hV2⟩ := hV2
        by_cases g5 : 4 ≤ z2
        · rw [if_pos g5] at h
          exact hrc _ _ ⟨by omega, hV2⟩ _ h
        · rw [if_neg g5] at h
          obtain ⟨v, -, -, h⟩ := h
          have h := jnk_d h
          by_cases g6 : v = 0
          · rw [if_pos g6] at h
            exact hrc2 _ _ ⟨by omega, hV2⟩ _ h
          · rw [if_neg g6] at h
            obtain ⟨_, -, -, h⟩ := rdb_g h
            obtain ⟨_, -, -, h⟩ := rdb_g h
            obtain ⟨V7, h7, -, h9⟩ := h
            obtain ⟨p, rfl⟩ : ∃ p : Nat, z = (p : Int) := ⟨z.toNat, by omega⟩
            obtain ⟨l, rfl⟩ : ∃ l : Nat, z2 = (l : Int) := ⟨z2.toNat, by omega⟩
            exact hrc2 _ _ ⟨by omega, g19_waters (by omega) (by omega) hV2 h7⟩ _ h9
      · rw [if_neg g4] at h
        exact hrc _ _ ⟨by omega, hV4⟩ _ h
set_option maxRecDepth 100000 in
theorem g19_days {x : Int} {W J X : Nat → Nat → Int} {R : Nat → Nat → Nat} (h : f_m_daysGo x W J R X) : G19 W X := by
  unfold f_m_daysGo at h
  obtain ⟨V1, e1, h⟩ := rdb_g h
  obtain ⟨V2, e2, h⟩ := rdb_g h
  obtain ⟨V3, e3, h⟩ := rdb_g h
  have v3 : V3 1 = W 1 := by rw [← e3, up2_c _ _ (by decide), ← e2, up2_c _ _ (by decide), ← e1, up2_c _ _ (by decide)]
  refine lop2_k (fun z V => 0 ≤ z ∧ V 1 = W 1 ∧ ∀ p : Nat, (p : Int) < z → V 19 p = 0) (fun X => G19 W X) (fun rc hrc z V hV r h => ?_) _ _ _ ⟨by omega, v3, fun p hp => by omega⟩ _ h
  obtain ⟨hz, hV1, hV⟩ := hV
  by_cases g : 8 ≤ z
  · rw [if_pos g] at h
    have g0 : G19 W V := fun p hp => by
      rw [hV p (by omega), hV1, Int.sub_self]
      exact (wr_id ⟨by omega, by omega⟩).symm
    refine lop2_k (fun z V => G19 W V) (fun X => G19 W X) (fun rc2 hrc2 z2 V2 hV2 r h => ?_) _ _ _ g0 _ h
    by_cases g2 : x ≤ z2
    · rw [if_pos g2] at h
      have h : r = V2 := h
      rw [h]; exact hV2
    · rw [if_neg g2] at h
      obtain ⟨y, -, h⟩ := rdb_g h
      by_cases g3 : 9999 ≤ y
      · rw [if_pos g3] at h
        have h : r = V2 := h
        rw [h]; exact hV2
      · rw [if_neg g3] at h
        obtain ⟨V5, h5, -, h⟩ := h
        exact hrc2 _ _ (g19_day hV2 h5) _ h
  · rw [if_neg g] at h
    obtain ⟨V5, e5, h⟩ := rdb_g h
    refine hrc _ _ ⟨by omega, by rw [← e5, up2_c _ _ (by decide), hV1], fun p hp => ?_⟩ _ h
    rw [← e5]
    by_cases e : p = z.toNat
    · rw [e, up2_s]
    · rw [up2_n _ _ (Or.inr e)]
      exact hV p (by omega)
theorem q_canTry {x z : Int} {V J : Nat → Nat → Int} {R : Nat → Nat → Nat} {N : Nat → Int} (hR : RLz 1 V N) (hxr : R32 x) (h : f_s_canTry x V J R z) : Sq z ((0 ≤ x ∧ x ≤ 3) ∨ (0 ≤ x - 10 ∧ x - 10 < 4 ∧ bt (N 76) (x - 10) = 1) ∨ (0 ≤ x - 20 ∧ x - 20 < 8 ∧ bt (N 78) (x - 20) = 1)) := by
  have yes : ∀ {P : Prop}, rtn 1 z → P → Sq z P := fun h p => Or.inl ⟨h, p⟩
  unfold f_s_canTry at h
  obtain ⟨z1, h1, -, h⟩ := h
  have h1 := q_sWithin h1
  by_cases g1 : ¬ z1 = 0
  · rw [if_pos g1] at h
    exact yes h (Or.inl (h1.on g1))
  rw [if_neg g1] at h
  have q1 := h1.off (by omega)
  obtain ⟨z4, e4, h⟩ := rdb_g h
  have w4 := wr_cases (z := x - 10) ⟨by omega, by omega⟩
  obtain ⟨z5, h5, -, h⟩ := h
  have h5 := q_sPlant h5
  by_cases g5 : ¬ z5 = 0
  · rw [if_pos g5] at h
    have q5 := hR.isP.mp (h5.on g5)
    have e : z4 = x - 10 := by omega
    rw [e] at q5
    exact yes h (Or.inr (Or.inl q5))
  rw [if_neg g5] at h
  have q5 := h5.off (by omega)
  obtain ⟨z8, e8, h⟩ := rdb_g h
  have w8 := wr_cases (z := x - 20) ⟨by omega, by omega⟩
  obtain ⟨z9, h9, -, h⟩ := h
  have h9 := q_sPerson h9
  by_cases g9 : z9 = 0
  · rw [if_pos g9] at h
    have q9 := h9.off g9
    refine Or.inr ⟨h, fun hp => ?_⟩
    rcases hp with hp | hp | hp
    · exact q1 hp
    · have e : z4 = x - 10 := by omega
      rw [← e] at hp
      exact q5 (hR.isP.mpr hp)
    · have e : z8 = x - 20 := by omega
      rw [← e] at hp
      exact q9 (hR.isPe.mpr hp)
  · rw [if_neg g9] at h
    have q9 := hR.isPe.mp (h9.on g9)
    have e : z8 = x - 20 := by omega
    rw [e] at q9
    exact yes h (Or.inr (Or.inr q9))
end
section
-- how long it lasts: lasts, needs (own work)
theorem q_copyP1 {c s : Nat} {V J U : Nat → Nat → Int} {R : Nat → Nat → Nat} (hne : s ≠ c ∧ s + 1 ≠ c) (h : f_s_copyP c s V J R U) : (∀ i : Nat, i ≠ c → i ≠ c + 1 → U i = V i) ∧ (∀ j : Nat, j < 8 → U c j = V s j) ∧ ∀ j : Nat, j < 7 → U (c + 1) j = V (s + 1) j := by
  have h2 : f_s_copyPu c s V J R U := by
    unfold f_s_copyP at h
    unfold f_s_copyPu
    exact h
  exact q_copyP hne h2
/-- the tried landing, but for plant l and the day, is the landing -/
def P9 (l : Nat) (V : Nat → Nat → Int) : Prop := (∀ q : Nat, q < 4 → q ≠ l → (∀ j : Nat, j < 8 → V (39 + 3 + 2 * q) j = V (1 + 3 + 2 * q) j) ∧ ∀ j : Nat, j < 7 → V (39 + 3 + 2 * q + 1) j = V (1 + 3 + 2 * q + 1) j) ∧ (∀ p : Nat, p < 8 → ∀ j : Nat, j < 4 → V (39 + 11 + p) j = V (1 + 11 + p) j) ∧ V 39 2 = V 1 2 ∧ V 39 4 = V 1 4
theorem d_lastsWith {l : Nat} {x a b : Int} {V W J Jm U X : Nat → Nat → Int} {R Rm : Nat → Nat → Nat} (hl : l < 4) (hx0 : 0 ≤ x ∧ x ≤ 24) (h1 : RLz 1 V (W 1)) (h79 : W 1 79 ≤ 9999) (hT : RTx R V W) (hp : P9 l V) (h76 : bt (W 1 76) l = 1) (h77 : ¬ bt (W 1 77) l = 1)
    (hx : f_s_lastsWith l x V J R (a, U)) (hm : f_m_lastsWith l x W Jm Rm (b, X)) : a = b ∧ P9 l U := by
  unfold f_s_lastsWith at hx
  unfold f_m_lastsWith at hm
  obtain ⟨c, ec, hx⟩ := rdb_g hx
  obtain ⟨s, es, hx⟩ := rdb_g hx
  rw [Int.toNat_natCast] at ec es
  obtain ⟨V3, k3, -, hx⟩ := hx
  obtain ⟨z4, V4, k4, -, hx⟩ := hx
  obtain ⟨z5, e5, hx⟩ := rdb_g hx
  obtain ⟨V6, e6, hx⟩ := rdb_g hx
  obtain ⟨_, -, -, hm⟩ := rdb_g hm
  obtain ⟨_, -, -, hm⟩ := rdb_g hm
  obtain ⟨W3, f3, hm⟩ := rdb_g hm
  obtain ⟨y4, f4, -, hm⟩ := rdb_g hm
  obtain ⟨y5, f5, -, hm⟩ := rdb_g hm
  obtain ⟨y6, k6, hm⟩ := hm
  have k6 := q_min k6
  obtain ⟨W8, f8, hm⟩ := rdb_g hm
  rw [show ((l : Int) + 4).toNat = 4 + l by omega] at f5 f8
  rw [Int.toNat_natCast] at f4
  obtain ⟨c1, c2, c3⟩ := q_copyP1 (c := c) (s := s) (by omega) k3
  have hPl := h1.1 l hl
  rw [es] at hPl
  obtain ⟨p0, p1, p2, p3, p4, p5, p6, p7, p8, p9, p10, p11, p12, p13⟩ := hPl
  obtain ⟨-, u4⟩ := q_sWet k4 (by rw [c2 2 (by decide)]; exact p10) (by rw [c2 1 (by decide)]; exact p9) (by omega)
  rw [c2 1 (by decide), c2 2 (by decide)] at u4
  have w31 : W3 1 = W 1 := by rw [← f3]; exact cpN_n (by decide)
  rw [w31] at f4 f5
  have ew : min (V s 2 + x) (V s 1) = y6 := by rw [k6, ← f4, ← f5, p1, p2, Int.min_comm]
  rw [ew] at u4
  have yr : 0 ≤ y6 ∧ y6 ≤ 24 := by omega
  have v4 : ∀ i : Nat, i ≠ c → V4 i = V3 i := fun i hi => by rw [u4, up2_c _ _ hi]
  have v4c : V4 c = up1 (V3 c) 2 y6 := by rw [u4, up2_row]
  have v6 : ∀ i : Nat, i ≠ 39 → V6 i = V4 i := fun i hi => by rw [← e6, up2_c _ _ hi]
  have v639 : V6 39 = up1 (V4 39) 3 z5 := by rw [← e6, up2_row]
  have o6 : ∀ i : Nat, i ≠ 39 → i ≠ c → i ≠ c + 1 → V6 i = V i := fun i i1 i2 i3 => by rw [v6 i i1, v4 i i2, c1 i i2 i3]
  have o639 : V4 39 = V 39 := by rw [v4 39 (by omega), c1 39 (by omega) (by omega)]
  have ez5 : z5 = W 1 79 := by
    rw [← e5, v4 1 (by omega), c1 1 (by omega) (by omega)]
    exact h1.2.2.2.1
  have x8 : W8 1 = up1 (W 1) (4 + l) y6 := by rw [← f8, up2_row, w31]
  have xo : ∀ k : Nat, k ≠ 4 + l → W8 1 k = W 1 k := fun k hk => by rw [x8, up1_of hk]
  have w8 : ∀ i : Nat, i ≠ 1 → i ≠ 2 → W8 i = W i := fun i i1 i2 => by rw [← f8, up2_c _ _ i1, ← f3]; exact cpN_n i2
  have hR6 : RLz 39 V6 (W8 1) := by
    obtain ⟨a1, a2, a3, a4, a5, a6, a7, a8, a9, a10⟩ := h1
    refine ⟨fun q hq => ?_, fun p hpp => ?_, ?_, ?_, ?_, by rw [xo 76 (by omega)]; exact a6, by rw [xo 77 (by omega)]; exact a7, by rw [xo 78 (by omega)]; exact a8, by rw [xo 79 (by omega)]; exact a9, by rw [xo 80 (by omega)]; exact a10⟩
    · by_cases e : q = l
      · subst e
        rw [ec]
        have g6 : ∀ j : Nat, j < 8 → j ≠ 2 → V6 c j = V s j := fun j hj j2 => by rw [v6 c (by omega), v4c, up1_of j2, c2 j hj]
        have g62 : V6 c 2 = y6 := by rw [v6 c (by omega), v4c, up1_at]
        unfold RPl dedX
        rw [g6 0 (by decide) (by decide), g6 1 (by decide) (by decide), g62, g6 3 (by decide) (by decide), g6 4 (by decide) (by decide), g6 5 (by decide) (by decide), g6 6 (by decide) (by decide), g6 7 (by decide) (by decide), xo 76 (by omega), xo 77 (by omega), xo q (by omega), xo (8 + q) (by omega), xo (12 + q) (by omega), xo (16 + q) (by omega), xo (20 + q) (by omega), x8, up1_at]
        refine ⟨p0, p1, rfl, p3, p4, p5, fun j hj => ?_, p7, p8, p9, yr, p11, p12, p13⟩
        rw [v6 (c + 1) (by omega), v4 (c + 1) (by omega), c3 j hj, up1_of (by omega)]
        exact p6 j hj
      · have hq2 := hp.1 q hq e
        refine ((a1 q hq).cl (fun j hj => ?_) (fun j hj => ?_)).cg rfl rfl (fun j hj => xo j (by omega)) (by rw [xo 76 (by omega)]) (by rw [xo 77 (by omega)])
        · rw [o6 _ (by omega) (by omega) (by omega)]; exact hq2.1 j hj
        · rw [o6 _ (by omega) (by omega) (by omega)]; exact hq2.2 j hj
    · have k := a2 p hpp
      have hq2 := hp.2.1 p hpp
      unfold RPe at k ⊢
      rw [o6 _ (by omega) (by omega) (by omega), hq2 0 (by decide), hq2 1 (by decide), hq2 2 (by decide), hq2 3 (by decide), xo 78 (by omega), xo (52 + p) (by omega), xo (60 + p) (by omega), xo (68 + p) (by omega)]
      exact k
    · rw [v639, up1_of (by decide), o639, hp.2.2.1, xo 78 (by omega)]; exact a3
    · rw [v639, up1_at, xo 79 (by omega)]; exact ez5
    · rw [v639, up1_of (by decide), o639, hp.2.2.2, xo 80 (by omega)]; exact a5
  have hT6 : RTx R V6 W8 := hT.cg (fun i i1 i2 i3 => o6 i (by omega) (by omega) (by omega)) (fun i i1 i2 => w8 i (by omega) (by omega))
  have back : ∀ V9 : Nat → Nat → Int, (∀ i : Nat, i ≠ 69 → i ≠ 70 → i ≠ 71 → i ≠ c → i ≠ c + 1 → i ≠ 39 → V9 i = V6 i) → V9 39 2 = V6 39 2 → V9 39 4 = V6 39 4 → P9 l V9 := fun V9 g1 g2 g4 => by
    refine ⟨fun q hq hne => ⟨fun j hj => ?_, fun j hj => ?_⟩, fun p hpp j hj => ?_, ?_, ?_⟩
    · rw [g1 _ (by omega) (by omega) (by omega) (by omega) (by omega) (by omega), g1 (1 + 3 + 2 * q) (by omega) (by omega) (by omega) (by omega) (by omega) (by omega), o6 _ (by omega) (by omega) (by omega), o6 (1 + 3 + 2 * q) (by omega) (by omega) (by omega)]
      exact (hp.1 q hq hne).1 j hj
    · rw [g1 _ (by omega) (by omega) (by omega) (by omega) (by omega) (by omega), g1 (1 + 3 + 2 * q + 1) (by omega) (by omega) (by omega) (by omega) (by omega) (by omega), o6 _ (by omega) (by omega) (by omega), o6 (1 + 3 + 2 * q + 1) (by omega) (by omega) (by omega)]
      exact (hp.1 q hq hne).2 j hj
    · rw [g1 _ (by omega) (by omega) (by omega) (by omega) (by omega) (by omega), g1 (1 + 11 + p) (by omega) (by omega) (by omega) (by omega) (by omega) (by omega), o6 _ (by omega) (by omega) (by omega), o6 (1 + 11 + p) (by omega) (by omega) (by omega)]
      exact hp.2.1 p hpp j hj
    · rw [g2, g1 1 (by omega) (by omega) (by omega) (by omega) (by omega) (by omega), v639, up1_of (by decide), o639, o6 1 (by omega) (by omega) (by omega)]
      exact hp.2.2.1
    · rw [g4, g1 1 (by omega) (by omega) (by omega) (by omega) (by omega) (by omega), v639, up1_of (by decide), o639, o6 1 (by omega) (by omega) (by omega)]
      exact hp.2.2.2
  obtain ⟨bX, hbX, hx9⟩ := lop2_g hx
  obtain ⟨bM, hbM, hm9⟩ := lop2_g hm
  have key : ∀ (n m : Nat) (z : Int) (V9 W9 : Nat → Nat → Int), 0 ≤ z ∧ z ≤ 60 → RLz 39 V9 (W9 1) → RTx R V9 W9 → W9 1 79 ≤ 9999 + z → bt (W9 1 76) l = 1 → ¬ bt (W9 1 77) l = 1 → (∀ i : Nat, i ≠ 69 → i ≠ 70 → i ≠ 71 → i ≠ c → i ≠ c + 1 → i ≠ 39 → V9 i = V6 i) → V9 39 2 = V6 39 2 → V9 39 4 = V6 39 4 → lop2 n bX z V9 (a, U) → lop2 m bM z W9 (b, X) → a = b ∧ P9 l U := by
    intro n
    induction n with
    | zero => intro m z V9 W9 _ _ _ _ _ _ _ _ _ hx; exact False.elim hx
    | succ n ih =>
      intro m z V9 W9 hz r1 r2 r3 r4 r5 g1 g2 g4 hx hm
      cases m with
      | zero => exact False.elim hm
      | succ m =>
        rw [lop2_s hbX] at hx
        rw [lop2_s hbM] at hm
        by_cases g : 60 ≤ z
        · rw [if_pos g] at hx hm
          obtain ⟨_, -, hm⟩ := rdb_g hm
          simp only [rtn, Prod.mk.injEq] at hx hm
          rw [hx.1, hm.1, hx.2]
          exact ⟨by omega, back V9 g1 g2 g4⟩
        · rw [if_neg g] at hx hm
          obtain ⟨V10, k10, -, hx⟩ := hx
          obtain ⟨_, -, -, hm⟩ := rdb_g hm
          obtain ⟨_, -, -, hm⟩ := rdb_g hm
          obtain ⟨W10, j10, -, hm⟩ := hm
          obtain ⟨d1, -, d2, ⟨d3, d4⟩, d5⟩ := d_endL (Or.inr (Or.inr rfl)) hl r1 r2 r4 r5 k10 j10
          rw [ec] at d5
          obtain ⟨z61, e61, hx⟩ := rdb_g hx
          obtain ⟨z62, e62, hx⟩ := rdb_g hx
          obtain ⟨V11, e11, hx⟩ := rdb_g hx
          obtain ⟨z64, k64, -, hx⟩ := hx
          obtain ⟨y11, k11, -, hm⟩ := hm
          have q64 := q_sDead k64
          have q11 := q_mLives k11
          have v11c : V11 c = V10 c := by rw [← e11, up2_c _ _ (by omega)]
          have v11o : ∀ i : Nat, i ≠ 39 → V11 i = V10 i := fun i hi => by rw [← e11, up2_c _ _ hi]
          have v1139 : V11 39 = up1 (V10 39) 3 z62 := by rw [← e11, up2_row]
          have v1039 : V10 39 = V9 39 := d5 39 (by omega) (by omega) (by omega) (by omega) (by omega)
          have g1' : ∀ i : Nat, i ≠ 69 → i ≠ 70 → i ≠ 71 → i ≠ c → i ≠ c + 1 → i ≠ 39 → V11 i = V6 i := fun i i1 i2 i3 i4 i5 i6 => by rw [v11o i i6, d5 i i1 i2 i3 i4 i5, g1 i i1 i2 i3 i4 i5 i6]
          have g2' : V11 39 2 = V6 39 2 := by rw [v1139, up1_of (by decide), v1039, g2]
          have g4' : V11 39 4 = V6 39 4 := by rw [v1139, up1_of (by decide), v1039, g4]
          have hd := d1.1 l hl
          rw [ec] at hd
          have hd8 := hd.2.2.2.2.2.2.2.2.1
          have hd0 : bt (W10 1 76) l = V10 c 0 := hd.1.symm
          rw [v11c] at q64
          have c0 : V10 c 0 = bt (W10 1 76) l := hd.1
          have t76 : bt (W10 1 76) l = 1 := by
            have e1 : bt (W9 1 76) l = V9 c 0 := by
              have k := (r1.1 l hl).1
              rw [ec] at k
              exact k.symm
            have e2 : W10 1 76 = W9 1 76 := by
              rcases (show l = 0 ∨ l = 1 ∨ l = 2 ∨ l = 3 by omega) with rfl | rfl | rfl | rfl <;> exact k_dries (by decide) j10 76 (by decide) (by decide)
            rw [e2]
            exact r4
          by_cases gd : dedX (V10 c)
          · have e64 : z64 = 1 := by
              rcases q64 with ⟨q, -⟩ | ⟨-, q⟩
              · exact q
              · exact absurd gd q
            have e11' : y11 = 0 := by
              rcases q11 with ⟨-, q⟩ | ⟨q, -⟩
              · exact absurd (hd8.mpr gd) q.2
              · exact q
            rw [if_neg (by omega)] at hx
            rw [if_neg (fun hh => hh e11')] at hm
            obtain ⟨_, -, hm⟩ := rdb_g hm
            simp only [rtn, Prod.mk.injEq] at hx hm
            rw [hx.1, hm.1, hx.2]
            exact ⟨rfl, back V11 g1' g2' g4'⟩
          · have e64 : z64 = 0 := by
              rcases q64 with ⟨-, q⟩ | ⟨q, -⟩
              · exact absurd q gd
              · exact q
            have n77 : ¬ bt (W10 1 77) l = 1 := fun hh => gd (hd8.mp hh)
            have e11' : ¬ y11 = 0 := by
              rcases q11 with ⟨q, -⟩ | ⟨-, q⟩
              · omega
              · exact absurd ⟨⟨by omega, by omega, t76⟩, n77⟩ q
            rw [if_pos e64] at hx
            rw [if_pos e11'] at hm
            obtain ⟨_, -, -, hm⟩ := rdb_g hm
            obtain ⟨_, -, -, hm⟩ := rdb_g hm
            obtain ⟨y16, f16, hm⟩ := rdb_g hm
            obtain ⟨y17, f17, hm⟩ := rdb_g hm
            obtain ⟨W18, f18, hm⟩ := rdb_g hm
            have h0 := d1.2.2.2.2.2.2.2.2.1
            have hw : wr (W10 1 79 + 1) = W10 1 79 + 1 := wr_id ⟨by omega, by omega⟩
            have ey17 : y17 = W10 1 79 + 1 := by rw [← f17, ← f16]; exact hw
            have ez62 : z62 = y17 := by
              rw [← e62, ← e61, ey17, d1.2.2.2.1]
              exact hw
            have w18 : ∀ i : Nat, i ≠ 1 → W18 i = W10 i := fun i hi => by rw [← f18, up2_c _ _ hi]
            have w181 : W18 1 = up1 (W10 1) 79 y17 := by rw [← f18, up2_row]
            have w18o : ∀ k : Nat, k ≠ 79 → W18 1 k = W10 1 k := fun k hk => by rw [w181, up1_of hk]
            have w1879 : W18 1 79 = y17 := by rw [w181, up1_at]
            refine ih m (z + 1) V11 W18 (by omega) ?_ (d2.cg (fun i i1 i2 i3 => v11o i (by omega)) (fun i i1 i2 => w18 i (by omega))) (by rw [w1879]; omega) (by rw [w18o 76 (by decide)]; exact t76) (by rw [w18o 77 (by decide)]; exact n77) g1' g2' g4' hx hm
            refine d1.cg (fun i i1 i2 => v11o i (by omega)) (fun k hk => w18o k (by omega)) (by rw [v1139, up1_of (by decide)]) (by rw [v1139, up1_at, w1879]; exact ez62) (by rw [v1139, up1_of (by decide), w18o 80 (by decide)]; exact d1.2.2.2.2.1) (by rw [w1879]; omega) (by rw [w18o 80 (by decide)]; exact d1.2.2.2.2.2.2.2.2.2)
  have r86 : bt (W8 1 76) l = 1 := by rw [xo 76 (by omega)]; exact h76
  have r87 : ¬ bt (W8 1 77) l = 1 := by rw [xo 77 (by omega)]; exact h77
  exact key _ _ 0 V6 W8 (by omega) hR6 hT6 (by rw [xo 79 (by omega)]; omega) r86 r87 (fun i _ _ _ _ _ _ => rfl) rfl rfl hx9 hm9
theorem P9.of {l : Nat} {U V : Nat → Nat → Int} (h : SL 39 1 U V) (ho : ∀ i : Nat, ¬ (39 ≤ i ∧ i ≤ 39 + 18) → U i = V i) : P9 l U := by
  obtain ⟨h1, h2, h3⟩ := h
  refine ⟨fun q hq _ => ⟨fun j hj => ?_, fun j hj => ?_⟩, fun p hp j hj => ?_, ?_, ?_⟩
  · rw [(h1 q hq).1 j hj, ho _ (by omega)]
  · rw [(h1 q hq).2 j hj, ho _ (by omega)]
  · rw [h2 p hp j hj, ho _ (by omega)]
  · rw [h3 2 (by decide) (by decide), ho 1 (by omega)]
  · rw [h3 4 (by decide) (by decide), ho 1 (by omega)]
theorem e_lasts {x y a b : Int} {V V2 J W Jm X : Nat → Nat → Int} {R Rm : Nat → Nat → Nat} (h : WR R V W) (hx : f_s_lasts x y V J R (a, V2)) (hm : f_m_lasts x y W Jm Rm (b, X)) : a = b := by
  have same : ∀ {c : Int} {V3 W3 : Nat → Nat → Int}, rtn (c, V3) (a, V2) → rtn (c, W3) (b, X) → a = b := fun h1 h2 => by
    simp only [rtn, Prod.mk.injEq] at h1 h2
    rw [h1.1, h2.1]
  unfold f_s_lasts at hx
  unfold f_m_lasts at hm
  obtain ⟨z1, h1, -, hx⟩ := hx
  obtain ⟨y1, k1, -, hm⟩ := hm
  obtain ⟨e1, q1⟩ := h.1.1.alive h1 k1
  subst e1
  by_cases g1 : z1 = 0
  · rw [if_pos g1] at hx hm; exact same hx hm
  rw [if_neg g1] at hx hm
  have q1 := q1.on g1
  obtain ⟨_, -, -, hm⟩ := rdb_g hm
  obtain ⟨_, -, -, hm⟩ := rdb_g hm
  obtain ⟨z4, h4, -, hx⟩ := hx
  obtain ⟨y4, k4, -, hm⟩ := hm
  have h4 := q_sWithin h4
  have e4 : z4 = y4 := h4.eq (q_mIn k4) Iff.rfl
  subst e4
  by_cases g4 : z4 = 0
  · rw [if_neg (fun hh => hh g4)] at hx hm; exact same hx hm
  rw [if_pos g4] at hx hm
  have q4 := h4.on g4
  obtain ⟨V7, k7, -, hx⟩ := hx
  obtain ⟨z8, V8, k8, -, -, hx⟩ := hx
  obtain ⟨y8, W8, j8, -, hm9⟩ := hm
  simp only [rtn, Prod.mk.injEq] at hx hm9
  have ea : a = z8 := hx.1
  have eb : b = y8 := hm9.1
  obtain ⟨n, rfl⟩ : ∃ n : Nat, x = (n : Int) := ⟨x.toNat, by omega⟩
  obtain ⟨c1, c2⟩ := q_copy (d := 39) (s := 1) (by omega) k7
  have r1 : RLz 1 V7 (W 1) := h.1.1.cg2 (fun i i1 i2 => c2 i (by omega)) (fun _ _ => rfl)
  have r2 : RTx R V7 W := h.2.2.2.1.1.cg (fun i i1 i2 i3 => c2 i (by omega)) (fun _ _ _ => rfl)
  rw [ea, eb]
  exact (d_lastsWith (by omega) q4 r1 h.1.2 r2 (P9.of c1 c2) q1.1.2.2 q1.2 k8 j8).1
theorem e_needs {x y a b : Int} {V V2 J W Jm X : Nat → Nat → Int} {R Rm : Nat → Nat → Nat} (h : WR R V W) (hx : f_s_needs x y V J R (a, V2)) (hm : f_m_needs x y W Jm Rm (b, X)) : a = b := by
  have same : ∀ {c : Int} {V3 W3 : Nat → Nat → Int}, rtn (c, V3) (a, V2) → rtn (c, W3) (b, X) → a = b := fun h1 h2 => by
    simp only [rtn, Prod.mk.injEq] at h1 h2
    rw [h1.1, h2.1]
  unfold f_s_needs at hx
  unfold f_m_needs at hm
  obtain ⟨z1, h1, -, hx⟩ := hx
  obtain ⟨y1, k1, -, hm⟩ := hm
  obtain ⟨e1, q1⟩ := h.1.1.alive h1 k1
  subst e1
  by_cases g1 : z1 = 0
  · rw [if_pos g1] at hx hm; exact same hx hm
  rw [if_neg g1] at hx hm
  have q1 := q1.on g1
  obtain ⟨_, -, -, hm⟩ := rdb_g hm
  obtain ⟨_, -, -, hm⟩ := rdb_g hm
  obtain ⟨z4, h4, -, hx⟩ := hx
  obtain ⟨y4, k4, -, hm⟩ := hm
  have h4 := q_sWithin h4
  have e4 : z4 = y4 := h4.eq (q_mIn k4) Iff.rfl
  subst e4
  by_cases g4 : z4 = 0
  · rw [if_neg (fun hh => hh g4)] at hx hm; exact same hx hm
  rw [if_pos g4] at hx hm
  have q4 := h4.on g4
  obtain ⟨V7, k7, -, hx⟩ := hx
  obtain ⟨n, rfl⟩ : ∃ n : Nat, x = (n : Int) := ⟨x.toNat, by omega⟩
  obtain ⟨c1, c2⟩ := q_copy (d := 39) (s := 1) (by omega) k7
  have r1 : RLz 1 V7 (W 1) := h.1.1.cg2 (fun i i1 i2 => c2 i (by omega)) (fun _ _ => rfl)
  have r2 : RTx R V7 W := h.2.2.2.1.1.cg (fun i i1 i2 i3 => c2 i (by omega)) (fun _ _ _ => rfl)
  obtain ⟨bX, hbX, hx9⟩ := lop2_g hx
  obtain ⟨bM, hbM, hm9⟩ := lop2_g hm
  have key : ∀ (i m : Nat) (z : Int) (V9 W9 : Nat → Nat → Int), 0 ≤ z → RLz 1 V9 (W9 1) → W9 1 79 ≤ 9999 → RTx R V9 W9 → P9 n V9 → bt (W9 1 76) n = 1 → ¬ bt (W9 1 77) n = 1 → lop2 i bX z V9 (a, V2) → lop2 m bM z W9 (b, X) → a = b := by
    intro i
    induction i with
    | zero => intro m z V9 W9 _ _ _ _ _ _ _ hx; exact False.elim hx
    | succ i ih =>
      intro m z V9 W9 hz s1 s2 s3 s4 s5 s6 hx hm
      cases m with
      | zero => exact False.elim hm
      | succ m =>
        rw [lop2_s hbX] at hx
        rw [lop2_s hbM] at hm
        by_cases g : 24 < z
        · rw [if_pos g] at hx hm; exact same hx hm
        · rw [if_neg g] at hx hm
          obtain ⟨z8, V8, k8, FX, -, hx⟩ := hx
          obtain ⟨_, -, -, hm⟩ := rdb_g hm
          obtain ⟨_, -, -, hm⟩ := rdb_g hm
          obtain ⟨y8, W8, j8, FM, hm⟩ := hm
          obtain ⟨t1, t2⟩ := d_lastsWith (by omega) ⟨hz, by omega⟩ s1 s2 s3 s4 s5 s6 k8 j8
          subst t1
          by_cases gy : z8 < y
          · rw [if_pos gy] at hx hm
            have kb := k_lastsWith j8
            refine ih m (z + 1) V8 W8 (by omega) (s1.cg2 (fun i i1 i2 => funext fun k => FX i k (by omega)) kb) (by rw [kb 79 (by decide)]; exact s2) (s3.cg (fun i i1 i2 i3 => funext fun k => FX i k (by omega)) (FM.kt (by decide))) t2 (by rw [kb 76 (by decide)]; exact s5) (by rw [kb 77 (by decide)]; exact s6) hx hm
          · rw [if_neg gy] at hx hm; exact same hx hm
  exact key _ _ 0 V7 W (by omega) r1 h.1.2 r2 (P9.of c1 c2) q1.1.2.2 q1.2 hx9 hm9
end
section
-- how many come: odds multiplied out (own work)
def oA (p : Nat → Int) : Nat → Nat → Int
  | 0, k => if k = 0 then 1 else 0
  | i + 1, k => oA p i k * (10 - p i) + (if k = 0 then 0 else oA p i (k - 1) * p i)
theorem mb {x p B : Int} (hx : 0 ≤ x ∧ x ≤ B) (hp : 0 ≤ p ∧ p ≤ 10) : 0 ≤ x * p ∧ x * p ≤ 10 * B := by
  have h1 : x * p ≤ x * 10 := Int.mul_le_mul_of_nonneg_left hp.2 hx.1
  have h2 : 0 ≤ x * p := Int.mul_nonneg hx.1 hp.1
  omega
theorem oA_b (p : Nat → Int) : ∀ i : Nat, (∀ j : Nat, j < i → 0 ≤ p j ∧ p j ≤ 10) → ∀ k : Nat, (0 ≤ oA p i k ∧ oA p i k ≤ 10 ^ i) ∧ (i < k → oA p i k = 0) := by
  intro i
  induction i with
  | zero =>
    intro _ k
    by_cases h : k = 0
    · subst h; exact ⟨by simp [oA], fun hh => by omega⟩
    · have e : oA p 0 k = 0 := by simp [oA, h]
      rw [e]
      exact ⟨by decide, fun _ => rfl⟩
  | succ i ih =>
    intro hp k
    have ih := ih (fun j hj => hp j (by omega))
    have hpi := hp i (by omega)
    have e : oA p (i + 1) k = oA p i k * (10 - p i) + (if k = 0 then 0 else oA p i (k - 1) * p i) := rfl
    have hk := ih k
    rw [e, Int.pow_succ]
    generalize (10 : Int) ^ i = B at ih hk ⊢
    by_cases h0 : k = 0
    · rw [if_pos h0]
      have := mb hk.1 (p := 10 - p i) (by omega)
      exact ⟨by omega, fun hh => by omega⟩
    · rw [if_neg h0]
      have hk1 := ih (k - 1)
      refine ⟨?_, fun hh => by rw [hk.2 (by omega), hk1.2 (by omega)]; omega⟩
      generalize oA p i k = u at hk
      generalize oA p i (k - 1) = w at hk1
      rcases (show p i = 0 ∨ p i = 1 ∨ p i = 2 ∨ p i = 3 ∨ p i = 4 ∨ p i = 5 ∨ p i = 6 ∨ p i = 7 ∨ p i = 8 ∨ p i = 9 ∨ p i = 10 by omega) with q | q | q | q | q | q | q | q | q | q | q <;> rw [q] <;> omega
theorem wrJ_id {z : Int} (h : -9223372036854775808 ≤ z ∧ z ≤ 9223372036854775807) : wrJ z = z := xj_toInt h
theorem od_x {p : Int} (hp : 0 ≤ p ∧ p ≤ 10) {B : Int} (hB : 0 ≤ B ∧ B ≤ 1000000000000) {a : Nat → Int} (ha : ∀ k : Nat, 0 ≤ a k ∧ a k ≤ B) {ρ : Type} {F : (Nat → Nat → Int) → ρ → Prop} {r : ρ} {b : (Int → (Nat → Nat → Int) → ρ → Prop) → Int → (Nat → Nat → Int) → ρ → Prop}
    (hb : b = (fun rc806 (z805 : Int) (J806 : Nat → Nat → Int) => (if z805 < 0 then F J806 else jnk (fun (z840 : Int) => rdb (J806 128 z805.toNat) fun z842 => rdb (wrJ (z842 * (-p + 10))) fun z843 => rdb (wrJ (z840 * p)) fun z844 => rdb (wrJ (z843 + z844)) fun z845 => rdb (up2 J806 128 z805.toNat z845) fun J846 => rc806 (z805 - 1) J846) fun jf841 => (if z805 ≤ 0 then jf841 0 else rdb (J806 128 ((z805 - 1).toNat)) fun z848 => jf841 z848)))) :
    ∀ (n k : Nat) (J : Nat → Nat → Int), (∀ j : Nat, j < k → J 128 j = a j) → (∀ j : Nat, k ≤ j → j ≤ 12 → J 128 j = a j * (10 - p) + (if j = 0 then 0 else a (j - 1) * p)) → k ≤ 13 → lop2 n b ((k : Int) - 1) J r → ∃ J2 : Nat → Nat → Int, (∀ j : Nat, j ≤ 12 → J2 128 j = a j * (10 - p) + (if j = 0 then 0 else a (j - 1) * p)) ∧ F J2 r := by
  intro n
  induction n with
  | zero => intro k J _ _ _ h; exact False.elim h
  | succ n ih =>
    intro k J h1 h2 hk h
    rw [lop2_s hb] at h
    by_cases g : k = 0
    · rw [if_pos (by omega)] at h
      exact ⟨J, fun j hj => h2 j (by omega) hj, h⟩
    · rw [if_neg (by omega)] at h
      have h := jnk_d h
      obtain ⟨m, rfl⟩ : ∃ m : Nat, k = m + 1 := ⟨k - 1, by omega⟩
      have em : (((m + 1 : Nat) : Int) - 1).toNat = m := by omega
      have a0 := mb (ha m) (p := 10 - p) (by omega)
      have step : ∀ w : Int, w * p = (if m = 0 then 0 else a (m - 1) * p) → 0 ≤ w * p ∧ w * p ≤ 10 * B → (rdb (J 128 (((m + 1 : Nat) : Int) - 1).toNat) fun z842 => rdb (wrJ (z842 * (-p + 10))) fun z843 => rdb (wrJ (w * p)) fun z844 => rdb (wrJ (z843 + z844)) fun z845 => rdb (up2 J 128 (((m + 1 : Nat) : Int) - 1).toNat z845) fun J846 => lop2 n b (((m + 1 : Nat) : Int) - 1 - 1) J846) r → ∃ J2 : Nat → Nat → Int, (∀ j : Nat, j ≤ 12 → J2 128 j = a j * (10 - p) + (if j = 0 then 0 else a (j - 1) * p)) ∧ F J2 r := by
        intro w ew hw h
        rw [em] at h
        obtain ⟨z1, e1, h⟩ := rdb_g h
        obtain ⟨z2, e2, h⟩ := rdb_g h
        obtain ⟨z3, e3, h⟩ := rdb_g h
        obtain ⟨z4, e4, h⟩ := rdb_g h
        obtain ⟨J5, e5, h⟩ := rdb_g h
        rw [h1 m (by omega)] at e1
        rw [← e1, show -p + 10 = 10 - p by omega, wrJ_id (by omega)] at e2
        rw [wrJ_id (by omega)] at e3
        rw [wrJ_id (by omega)] at e4
        refine ih m J5 (fun j hj => ?_) (fun j hj hj2 => ?_) (by omega) (by rw [show (m : Int) - 1 = ((m + 1 : Nat) : Int) - 1 - 1 by omega]; exact h)
        · rw [← e5, up2_n _ _ (Or.inr (by omega))]; exact h1 j (by omega)
        · rw [← e5]
          by_cases e : j = m
          · rw [e, up2_s, ← e4, ← e2, ← e3, ew]
          · rw [up2_n _ _ (Or.inr e)]; exact h2 j (by omega) hj2
      by_cases g0 : ((m + 1 : Nat) : Int) - 1 ≤ 0
      · rw [if_pos g0] at h
        exact step 0 (by rw [if_pos (by omega), Int.zero_mul]) (by omega) h
      · rw [if_neg g0] at h
        obtain ⟨w, ew, h⟩ := rdb_g h
        rw [show (((m + 1 : Nat) : Int) - 1 - 1).toNat = m - 1 by omega, h1 (m - 1) (by omega)] at ew
        have aw := mb (ha (m - 1)) hp
        rw [ew] at aw
        exact step w (by rw [if_neg (by omega), ew]) aw h
theorem od_m {p : Int} (hp : 0 ≤ p ∧ p ≤ 10) {B : Int} (hB : 0 ≤ B ∧ B ≤ 1000000000000) {a : Nat → Int} (ha : ∀ k : Nat, 0 ≤ a k ∧ a k ≤ B) {ρ : Type} {F : (Nat → Nat → Int) → ρ → Prop} {r : ρ} {V : Nat → Nat → Int} {z3049 : Int} (hV : V 4 z3049.toNat = p) {b : (Int → (Nat → Nat → Int) → ρ → Prop) → Int → (Nat → Nat → Int) → ρ → Prop}
    (hb : b = (fun rc3198 (z3197 : Int) (J3198 : Nat → Nat → Int) => (if z3197 < 0 then F J3198 else rdb (J3198 29 z3197.toNat) fun z3237 => rdb (V 4 z3049.toNat) fun z3238 => fct (-128 ≤ z3238 ∧ z3238 ≤ 127) <| rdb (wrJ (z3237 * (-z3238 + 10))) fun z3239 => jnk (fun (z3242 : Int) => rdb (wrJ (z3239 + z3242)) fun z3244 => rdb (up2 J3198 29 z3197.toNat z3244) fun J3245 => rc3198 (z3197 - 1) J3245) fun jf3243 => (if z3197 ≤ 0 then jf3243 0 else rdb (J3198 29 ((z3197 - 1).toNat)) fun z3247 => rdb (wrJ (z3247 * z3238)) fun z3248 => jf3243 z3248)))) :
    ∀ (n k : Nat) (J : Nat → Nat → Int), (∀ j : Nat, j < k → J 29 j = a j) → (∀ j : Nat, k ≤ j → j ≤ 12 → J 29 j = a j * (10 - p) + (if j = 0 then 0 else a (j - 1) * p)) → k ≤ 13 → lop2 n b ((k : Int) - 1) J r → ∃ J2 : Nat → Nat → Int, (∀ j : Nat, j ≤ 12 → J2 29 j = a j * (10 - p) + (if j = 0 then 0 else a (j - 1) * p)) ∧ F J2 r := by
  intro n
  induction n with
  | zero => intro k J _ _ _ h; exact False.elim h
  | succ n ih =>
    intro k J h1 h2 hk h
    rw [lop2_s hb] at h
    by_cases g : k = 0
    · rw [if_pos (by omega)] at h
      exact ⟨J, fun j hj => h2 j (by omega) hj, h⟩
    · rw [if_neg (by omega)] at h
      obtain ⟨m, rfl⟩ : ∃ m : Nat, k = m + 1 := ⟨k - 1, by omega⟩
      have em : (((m + 1 : Nat) : Int) - 1).toNat = m := by omega
      have a0 := mb (ha m) (p := 10 - p) (by omega)
      rw [em] at h
      obtain ⟨z1, e1, h⟩ := rdb_g h
      obtain ⟨q, eq, -, h⟩ := rdb_g h
      rw [hV] at eq
      subst eq
      obtain ⟨z2, e2, h⟩ := rdb_g h
      have h := jnk_d h
      rw [h1 m (by omega)] at e1
      rw [← e1, show -p + 10 = 10 - p by omega, wrJ_id (by omega)] at e2
      have step : ∀ w : Int, w = (if m = 0 then 0 else a (m - 1) * p) → 0 ≤ w ∧ w ≤ 10 * B → (rdb (wrJ (z2 + w)) fun z3244 => rdb (up2 J 29 m z3244) fun J3245 => lop2 n b (((m + 1 : Nat) : Int) - 1 - 1) J3245) r → ∃ J2 : Nat → Nat → Int, (∀ j : Nat, j ≤ 12 → J2 29 j = a j * (10 - p) + (if j = 0 then 0 else a (j - 1) * p)) ∧ F J2 r := by
        intro w ew hw h
        obtain ⟨z4, e4, h⟩ := rdb_g h
        obtain ⟨J5, e5, h⟩ := rdb_g h
        rw [wrJ_id (by omega)] at e4
        refine ih m J5 (fun j hj => ?_) (fun j hj hj2 => ?_) (by omega) (by rw [show (m : Int) - 1 = ((m + 1 : Nat) : Int) - 1 - 1 by omega]; exact h)
        · rw [← e5, up2_n _ _ (Or.inr (by omega))]; exact h1 j (by omega)
        · rw [← e5]
          by_cases e : j = m
          · rw [e, up2_s, ← e4, ← e2, ← ew]
          · rw [up2_n _ _ (Or.inr e)]; exact h2 j (by omega) hj2
      by_cases g0 : ((m + 1 : Nat) : Int) - 1 ≤ 0
      · rw [if_pos g0] at h
        exact step 0 (by rw [if_pos (by omega)]) (by omega) h
      · rw [if_neg g0] at h
        obtain ⟨w, ew, h⟩ := rdb_g h
        obtain ⟨w2, ew2, h⟩ := rdb_g h
        rw [show (((m + 1 : Nat) : Int) - 1 - 1).toNat = m - 1 by omega, h1 (m - 1) (by omega)] at ew
        have aw := mb (ha (m - 1)) hp
        rw [ew] at aw
        rw [wrJ_id (by omega)] at ew2
        exact step w2 (by rw [if_neg (by omega), ew, ew2]) (by omega) h
end
section
-- who was not told has nothing; cups are few (own work)
def GB (u : Nat → Int) (N : Nat → Int) : Prop := (∀ l : Nat, l < 4 → bt (N 76) l = 0 → N (4 + l) = 0) ∧ ∀ p : Nat, p < 8 → (bt (N 78) p = 0 → N (68 + p) = 0) ∧ 0 ≤ N (68 + p) ∧ N (68 + p) ≤ 3996 * N 79 + u p
def GI (N : Nat → Int) : Prop := GB (fun _ => 0) N
def GW (W : Nat → Nat → Int) : Prop := GI (W 1) ∧ (W 0 53 = 0 ∨ GI (W 3))
theorem GB.cg {u : Nat → Int} {N M : Nat → Int} (h : GB u N) (h1 : ∀ k : Nat, 4 ≤ k → k < 8 → M k = N k) (h2 : ∀ k : Nat, 68 ≤ k → k < 80 → k ≠ 77 → M k = N k) : GB u M := by
  obtain ⟨a, b⟩ := h
  refine ⟨fun l hl hb => ?_, fun p hp => ?_⟩
  · rw [h2 76 (by decide) (by decide) (by decide)] at hb
    rw [h1 _ (by omega) (by omega)]
    exact a l hl hb
  · rw [h2 78 (by decide) (by decide) (by decide), h2 79 (by decide) (by decide) (by decide), h2 (68 + p) (by omega) (by omega) (by omega)]
    exact b p hp
theorem GB.mono {u w : Nat → Int} {N : Nat → Int} (h : GB u N) (hu : ∀ p : Nat, p < 8 → u p ≤ w p) : GB w N := ⟨h.1, fun p hp => by
  have := h.2 p hp
  have := hu p hp
  exact ⟨(h.2 p hp).1, by omega, by omega⟩⟩
theorem GW.keep {W X : Nat → Nat → Int} (h : GW W) (m1 : ∀ k : Nat, k < 81 → X 1 k = W 1 k) (m3 : X 3 = W 3) (m5 : X 0 53 = W 0 53) : GW X := by
  obtain ⟨a, b⟩ := h
  refine ⟨GB.cg a (fun k _ h2 => m1 k (by omega)) (fun k _ h2 _ => m1 k (by omega)), ?_⟩
  rw [m5, m3]
  exact b
theorem GW.land {W X : Nat → Nat → Int} (h : GW W) (h1 : GI (X 1)) (hm : ∀ i : Nat, i ≠ 1 → X i = W i) : GW X := by
  refine ⟨h1, ?_⟩
  rw [hm 0 (by decide), hm 3 (by decide)]
  exact h.2
theorem gw_plant {x p w d b : Int} {V W Jm X : Nat → Nat → Int} {R Rm : Nat → Nat → Nat} (h : WR R V W) (hG : GW W) (hm : f_m_plant x p w d W Jm Rm (b, X)) : GW X := by
  have no : ∀ c : Int, rtn (c, W) (b, X) → GW X := fun c h => by
    simp only [rtn, Prod.mk.injEq] at h
    rw [h.2]; exact hG
  unfold f_m_plant at hm
  obtain ⟨y1, k1, -, hm⟩ := hm
  by_cases g1 : y1 = 0
  · rw [if_pos g1] at hm; exact no _ hm
  rw [if_neg g1] at hm
  have g1 := (q_mIn k1).on g1
  obtain ⟨y5, k5, -, hm⟩ := hm
  by_cases g5 : y5 = 0
  · rw [if_pos g5] at hm; exact no _ hm
  rw [if_neg g5] at hm
  obtain ⟨y8, k8, -, hm⟩ := hm
  by_cases g8 : y8 = 0
  · rw [if_pos g8] at hm; exact no _ hm
  rw [if_neg g8] at hm
  obtain ⟨y12, k12, -, hm⟩ := hm
  by_cases g12 : y12 = 0
  · rw [if_neg (fun hh => hh g12)] at hm; exact no _ hm
  rw [if_pos g12] at hm
  clear k1 k5 k8 k12
  obtain ⟨n, rfl⟩ : ∃ n : Nat, x = (n : Int) := ⟨x.toNat, by omega⟩
  have hn : n < 4 := by omega
  obtain ⟨s, f1, hm⟩ := rdb_g hm
  obtain ⟨s2, f2, hm⟩ := rdb_g hm
  obtain ⟨s3, f3, hm⟩ := rdb_g hm
  obtain ⟨W1, f4, hm⟩ := rdb_g hm
  obtain ⟨s5, f5, hm⟩ := rdb_g hm
  obtain ⟨s6, f6, hm⟩ := rdb_g hm
  obtain ⟨s7, f7, hm⟩ := rdb_g hm
  obtain ⟨s8, f8, hm⟩ := rdb_g hm
  obtain ⟨W2, f9, hm⟩ := rdb_g hm
  obtain ⟨W3, f10, hm⟩ := rdb_g hm
  obtain ⟨W4, f11, hm⟩ := rdb_g hm
  obtain ⟨W5, f12, hm⟩ := rdb_g hm
  obtain ⟨W6, f13, hm⟩ := rdb_g hm
  obtain ⟨W7, f14, hm⟩ := rdb_g hm
  obtain ⟨W8, f15, hm⟩ := rdb_g hm
  obtain ⟨-, m2, m3, m4⟩ := q_mFill rfl hm
  have r76 := h.1.1.2.2.2.2.2.1
  have o76 := bt_or (s := W 1 76) (p := n) ⟨r76.1, by omega⟩ ⟨by omega, by omega⟩
  have w8 : ∀ i : Nat, i ≠ 1 → W8 i = W i := fun i hi => by rw [← f15, up2_c _ _ hi, ← f14, up2_c _ _ hi, ← f13, up2_c _ _ hi, ← f12, up2_c _ _ hi, ← f11, up2_c _ _ hi, ← f10, up2_c _ _ hi, ← f9, up2_c _ _ hi, ← f4, up2_c _ _ hi]
  have e4 : ((n : Int) + 4).toNat = 4 + n := by omega
  have e8 : ((n : Int) + 8).toNat = 8 + n := by omega
  have e12 : ((n : Int) + 12).toNat = 12 + n := by omega
  have e16 : ((n : Int) + 16).toNat = 16 + n := by omega
  have e20 : ((n : Int) + 20).toNat = 20 + n := by omega
  have r8 : W8 1 = up1 (up1 (up1 (up1 (up1 (up1 (up1 (up1 (W 1) 76 s3) 77 s8) n p) (4 + n) w) (8 + n) d) (12 + n) 0) (16 + n) 0) (20 + n) (-2) := by
    rw [← f15, up2_row, ← f14, up2_row, ← f13, up2_row, ← f12, up2_row, ← f11, up2_row, ← f10, up2_row, ← f9, up2_row, ← f4, up2_row, e4, e8, e12, e16, e20, Int.toNat_natCast]
  have x76 : X 1 76 = iOr (W 1 76) (iShl 1 n) := by
    rw [m4 76 (by omega), r8, up1_of (by omega), up1_of (by omega), up1_of (by omega), up1_of (by omega), up1_of (by omega), up1_of (by omega), up1_of (by omega), up1_at, ← f3, ← f2, ← f1]
  have xo : ∀ k : Nat, k < 81 → k ≠ n → k ≠ 4 + n → k ≠ 8 + n → k ≠ 12 + n → k ≠ 16 + n → k ≠ 20 + n → ¬ (24 + 7 * n ≤ k ∧ k < 31 + 7 * n) → k ≠ 76 → k ≠ 77 → X 1 k = W 1 k := fun k _ k1 k2 k3 k4 k5 k6 k7 k8 k9 => by
    rw [m4 k k7, r8, up1_of k6, up1_of k5, up1_of k4, up1_of k3, up1_of k2, up1_of k1, up1_of k9, up1_of k8]
  have xh : ∀ k : Nat, 52 ≤ k → k < 81 → k ≠ 76 → k ≠ 77 → X 1 k = W 1 k := fun k k1 k2 k3 k4 => xo k k2 (by omega) (by omega) (by omega) (by omega) (by omega) (by omega) (by omega) k3 k4
  refine hG.land ⟨fun l hl hb => ?_, fun q hq => ?_⟩ (fun i hi => by rw [m2 i hi, w8 i hi])
  · rw [x76, o76.2 l ⟨by omega, by omega⟩] at hb
    by_cases e : l = n
    · rw [if_pos (by omega)] at hb; omega
    · rw [if_neg (by omega)] at hb
      rw [xo (4 + l) (by omega) (by omega) (by omega) (by omega) (by omega) (by omega) (by omega) (by omega) (by omega) (by omega)]
      exact hG.1.1 l hl hb
  · rw [xh 78 (by decide) (by decide) (by decide) (by decide), xh 79 (by decide) (by decide) (by decide) (by decide), xh (68 + q) (by omega) (by omega) (by omega) (by omega)]
    exact hG.1.2 q hq
theorem gw_person {x k t b : Int} {V W Jm X : Nat → Nat → Int} {R Rm : Nat → Nat → Nat} (h : WR R V W) (hG : GW W) (hm : f_m_person x k t W Jm Rm (b, X)) : GW X := by
  have no : ∀ c : Int, rtn (c, W) (b, X) → GW X := fun c h => by
    simp only [rtn, Prod.mk.injEq] at h
    rw [h.2]; exact hG
  unfold f_m_person at hm
  obtain ⟨y1, k1, -, hm⟩ := hm
  by_cases g1 : y1 = 0
  · rw [if_pos g1] at hm; exact no _ hm
  rw [if_neg g1] at hm
  have g1 := (q_mIn k1).on g1
  obtain ⟨y5, k5, -, hm⟩ := hm
  by_cases g5 : y5 = 0
  · rw [if_pos g5] at hm; exact no _ hm
  rw [if_neg g5] at hm
  obtain ⟨y8, k8, -, hm⟩ := hm
  by_cases g8 : y8 = 0
  · rw [if_neg (fun hh => hh g8)] at hm; exact no _ hm
  rw [if_pos g8] at hm
  clear k1 k5 k8
  obtain ⟨n, rfl⟩ : ∃ n : Nat, x = (n : Int) := ⟨x.toNat, by omega⟩
  have hn : n < 8 := by omega
  have r78 := h.1.1.2.2.2.2.2.2.2.1
  have o78 := bt_or (s := W 1 78) (p := n) r78 ⟨by omega, by omega⟩
  obtain ⟨s, f1, hm⟩ := rdb_g hm
  obtain ⟨s2, f2, hm⟩ := rdb_g hm
  obtain ⟨s3, f3, hm⟩ := rdb_g hm
  obtain ⟨W1, f4, hm⟩ := rdb_g hm
  obtain ⟨W2, f5, hm⟩ := rdb_g hm
  obtain ⟨W3, f6, hm⟩ := rdb_g hm
  obtain ⟨W4, f7, hm⟩ := rdb_g hm
  simp only [rtn, Prod.mk.injEq] at hm
  obtain ⟨rfl, rfl⟩ := hm
  have e52 : ((n : Int) + 52).toNat = 52 + n := by omega
  have e60 : ((n : Int) + 60).toNat = 60 + n := by omega
  have e68 : ((n : Int) + 68).toNat = 68 + n := by omega
  have xr : X 1 = up1 (up1 (up1 (up1 (W 1) 78 s3) (52 + n) k) (60 + n) t) (68 + n) 0 := by
    rw [← f7, up2_row, ← f6, up2_row, ← f5, up2_row, ← f4, up2_row, e52, e60, e68]
  have x78 : X 1 78 = iOr (W 1 78) (iShl 1 n) := by
    rw [xr, up1_of (by omega), up1_of (by omega), up1_of (by omega), up1_at, ← f3, ← f2, ← f1]
  have xo : ∀ k : Nat, k ≠ 52 + n → k ≠ 60 + n → k ≠ 68 + n → k ≠ 78 → X 1 k = W 1 k := fun k k1 k2 k3 k4 => by
    rw [xr, up1_of k3, up1_of k2, up1_of k1, up1_of k4]
  have x68 : X 1 (68 + n) = 0 := by rw [xr, up1_at]
  have h79 := h.1.1.2.2.2.2.2.2.2.2.1
  have x79 : X 1 79 = W 1 79 := xo 79 (by omega) (by omega) (by omega) (by decide)
  refine hG.land ⟨fun l hl hb => ?_, fun q hq => ?_⟩ (fun i hi => by rw [← f7, up2_c _ _ hi, ← f6, up2_c _ _ hi, ← f5, up2_c _ _ hi, ← f4, up2_c _ _ hi])
  · rw [xo 76 (by omega) (by omega) (by omega) (by decide)] at hb
    rw [xo (4 + l) (by omega) (by omega) (by omega) (by omega)]
    exact hG.1.1 l hl hb
  · rw [x78, o78.2 q ⟨by omega, by omega⟩, x79]
    by_cases e : q = n
    · rw [e, x68, if_pos rfl]
      exact ⟨fun _ => rfl, by omega, by show (0 : Int) ≤ 3996 * W 1 79 + 0; omega⟩
    · rw [if_neg (by omega), xo (68 + q) (by omega) (by omega) (by omega) (by omega)]
      exact hG.1.2 q hq
theorem gw_card {x y b : Int} {V W Jm X : Nat → Nat → Int} {R Rm : Nat → Nat → Nat} (h : WR R V W) (hG : GW W) (hm : f_m_card x y W Jm Rm (b, X)) : GW X := by
  have no : ∀ c : Int, rtn (c, W) (b, X) → GW X := fun c h => by
    simp only [rtn, Prod.mk.injEq] at h
    rw [h.2]; exact hG
  unfold f_m_card at hm
  obtain ⟨y1, k1, -, hm⟩ := hm
  by_cases g1 : y1 = 0
  · rw [if_pos g1] at hm; exact no _ hm
  rw [if_neg g1] at hm
  have q1 := (q_mPlant k1).on g1
  obtain ⟨z4, e4, hm⟩ := rdb_g hm
  have hm := jnk_if hm
  have up : ∀ v : Int, (rdb (up2 W 1 ((x + 20).toNat) v) fun V9 => rtn (1, V9)) (b, X) → GW X := fun v hm => by
    obtain ⟨W9, f9, hm⟩ := rdb_g hm
    simp only [rtn, Prod.mk.injEq] at hm
    obtain ⟨rfl, rfl⟩ := hm
    have xo : ∀ k : Nat, k ≠ (x + 20).toNat → X 1 k = W 1 k := fun k hk => by rw [← f9, up2_n _ _ (Or.inr hk)]
    exact hG.land (GB.cg hG.1 (fun k k1 k2 => xo k (by omega)) (fun k k1 k2 _ => xo k (by omega))) (fun i hi => by rw [← f9, up2_c _ _ hi])
  have two : ∀ w : Int, (if w = y then (if y = 0 then rdb (up2 W 1 ((x + 20).toNat) (-2)) fun V9 => rtn (1, V9) else rdb (up2 W 1 ((x + 20).toNat) (-3)) fun V10 => rtn (1, V10)) else rtn (0, W)) (b, X) → GW X := fun w hm => by
    by_cases gw : w = y
    · rw [if_pos gw] at hm
      by_cases gy : y = 0
      · rw [if_pos gy] at hm; exact up _ hm
      · rw [if_neg gy] at hm; exact up _ hm
    · rw [if_neg gw] at hm; exact no _ hm
  exact two _ hm
theorem gw_pour {x y b : Int} {V W Jm X : Nat → Nat → Int} {R Rm : Nat → Nat → Nat} (h : WR R V W) (hG : GW W) (hm : f_m_pour x y W Jm Rm (b, X)) : GW X := by
  have no : ∀ c : Int, rtn (c, W) (b, X) → GW X := fun c h => by
    simp only [rtn, Prod.mk.injEq] at h
    rw [h.2]; exact hG
  unfold f_m_pour at hm
  obtain ⟨y1, k1, -, hm⟩ := hm
  by_cases g1 : y1 = 0
  · rw [if_pos g1] at hm; exact no _ hm
  rw [if_neg g1] at hm
  have q1 := (q_mLives k1).on g1
  obtain ⟨_, -, -, hm⟩ := rdb_g hm
  obtain ⟨_, -, -, hm⟩ := rdb_g hm
  obtain ⟨y6, -, -, hm⟩ := hm
  by_cases g6 : ¬ y6 = 0
  · rw [if_pos g6] at hm
    obtain ⟨_, -, -, hm⟩ := rdb_g hm
    obtain ⟨_, -, -, hm⟩ := rdb_g hm
    obtain ⟨w, -, hm⟩ := hm
    obtain ⟨W9, f9, hm⟩ := rdb_g hm
    simp only [rtn, Prod.mk.injEq] at hm
    obtain ⟨rfl, rfl⟩ := hm
    have xo : ∀ k : Nat, k ≠ (x + 4).toNat → X 1 k = W 1 k := fun k hk => by rw [← f9, up2_n _ _ (Or.inr hk)]
    refine hG.land ⟨fun l hl hb => ?_, fun q hq => ?_⟩ (fun i hi => by rw [← f9, up2_c _ _ hi])
    · rw [xo 76 (by omega)] at hb
      by_cases e : (l : Int) = x
      · rw [e, q1.1.2.2] at hb; omega
      · rw [xo (4 + l) (by omega)]
        exact hG.1.1 l hl hb
    · rw [xo 78 (by omega), xo 79 (by omega), xo (68 + q) (by omega)]
      exact hG.1.2 q hq
  · rw [if_neg g6] at hm; exact no _ hm
theorem gw_seed {x b : Int} {W Jm X : Nat → Nat → Int} {Rm : Nat → Nat → Nat} (hG : GW W) (hm : f_m_seed x W Jm Rm (b, X)) : GW X := by
  unfold f_m_seed at hm
  obtain ⟨y1, -, -, hm⟩ := hm
  by_cases g1 : ¬ y1 = 0
  · rw [if_pos g1] at hm
    obtain ⟨W9, f9, hm⟩ := rdb_g hm
    simp only [rtn, Prod.mk.injEq] at hm
    obtain ⟨rfl, rfl⟩ := hm
    have xo : ∀ k : Nat, k ≠ 80 → X 1 k = W 1 k := fun k hk => by rw [← f9, up2_n _ _ (Or.inr hk)]
    exact hG.land (GB.cg hG.1 (fun k k1 k2 => xo k (by omega)) (fun k k1 k2 _ => xo k (by omega))) (fun i hi => by rw [← f9, up2_c _ _ hi])
  · rw [if_neg g1] at hm
    simp only [rtn, Prod.mk.injEq] at hm
    rw [hm.2]; exact hG
theorem gw_undo {b : Int} {W Jm X : Nat → Nat → Int} {Rm : Nat → Nat → Nat} (hG : GW W) (hm : f_m_undo W Jm Rm (b, X)) : GW X := by
  unfold f_m_undo at hm
  obtain ⟨y1, f1, -, hm⟩ := rdb_g hm
  by_cases g1 : ¬ y1 = 0
  · rw [if_pos g1] at hm
    obtain ⟨W9, f9, hm⟩ := rdb_g hm
    simp only [rtn, Prod.mk.injEq] at hm
    obtain ⟨rfl, rfl⟩ := hm
    have k := hG.2.resolve_left (by omega)
    have x1 : ∀ j : Nat, j < 81 → X 1 j = W 3 j := fun j hj => by rw [← f9, cpN_at hj]
    exact hG.land (GB.cg k (fun k _ k2 => x1 k (by omega)) (fun k _ k2 _ => x1 k (by omega))) (fun i hi => by rw [← f9, cpN_n hi])
  · rw [if_neg g1] at hm
    simp only [rtn, Prod.mk.injEq] at hm
    rw [hm.2]; exact hG
theorem gw_keep {W : Nat → Nat → Int} (hG : GW W) : GW (cpN (up2 W 0 53 1) 1 3 81) := by
  have x1 : cpN (up2 W 0 53 1) 1 3 81 1 = W 1 := by rw [cpN_n (by decide), up2_c _ _ (by decide)]
  have x3 : ∀ k : Nat, k < 81 → cpN (up2 W 0 53 1) 1 3 81 3 k = W 1 k := fun k hk => by rw [cpN_at hk, up2_c _ _ (by decide)]
  exact ⟨by rw [x1]; exact hG.1, Or.inr (GB.cg hG.1 (fun k _ k2 => x3 k (by omega)) (fun k _ k2 _ => x3 k (by omega)))⟩
end
section
-- cups are few: days (own work)
theorem k_dries2 {l : Nat} {s : Int} {V J X : Nat → Nat → Int} {R : Nat → Nat → Nat} (hl : l < 4) (h : f_m_dries (l : Int) s V J R X) : ∀ k : Nat, 4 ≤ k → k < 8 → k ≠ 4 + l → X 1 k = V 1 k := by
  unfold f_m_dries at h
  obtain ⟨z1, -, -, h⟩ := rdb_g h
  obtain ⟨z2, -, -, h⟩ := rdb_g h
  obtain ⟨V3, -, F3, h⟩ := h
  obtain ⟨z4, V4, -, F4, -, h⟩ := h
  have e4 : V4 1 = V 1 := by rw [F4.rw 1 (by decide) (by decide), F3.rw 1 (by decide) (by decide)]
  have tail : ∀ (V9 V5 : Nat → Nat → Int) (w d r : Int), V5 1 = V 1 → up2 V5 1 ((l : Int) + 4).toNat w = V9 → dTail l w d r V9 X → ∀ k : Nat, 4 ≤ k → k < 8 → k ≠ 4 + l → X 1 k = V 1 k := fun V9 V5 w d r e5 e9 ht k k1 k2 k3 => by
    obtain ⟨_, _, -, -, -, -, -, tof⟩ := q_dTail hl ht
    rw [tof k (by omega) (by omega) (by omega) (by omega), ← e9, up2_n _ _ (Or.inr (by omega)), e5]
  by_cases g : s = 0
  · rw [if_pos g] at h
    obtain ⟨_, -, -, h⟩ := rdb_g h
    obtain ⟨w, -, h⟩ := h
    obtain ⟨V9, e9, h⟩ := rdb_g h
    exact tail _ _ _ _ _ e4 e9 h
  · rw [if_neg g] at h
    obtain ⟨_, V5, -, F5, -, h⟩ := h
    obtain ⟨_, -, -, h⟩ := rdb_g h
    obtain ⟨w, -, h⟩ := h
    obtain ⟨V9, e9, h⟩ := rdb_g h
    exact tail _ _ _ _ _ (by rw [F5.rw 1 (by decide) (by decide), e4]) e9 h
def SM (N M : Nat → Int) : Prop := M 76 = N 76 ∧ M 78 = N 78 ∧ M 79 = N 79
theorem gb_waters {p l : Nat} {u : Nat → Int} {V J X : Nat → Nat → Int} {R : Nat → Nat → Nat} (hp : p < 8) (hl : l < 4) (h76 : bt (V 1 76) l = 1) (h78 : bt (V 1 78) p = 1) (hD : V 1 79 ≤ 9999 ∧ u p ≤ 5000) (hG : GB u (V 1)) (h : f_m_waters (p : Int) (l : Int) V J R X) : GB (fun q => if q = p then u p + 999 else u q) (X 1) ∧ SM (V 1) (X 1) := by
  unfold f_m_waters at h
  obtain ⟨g, V1, -, F1, rg, h⟩ := h
  obtain ⟨_, -, -, h⟩ := rdb_g h
  obtain ⟨_, -, -, h⟩ := rdb_g h
  obtain ⟨w, -, h⟩ := h
  obtain ⟨V6, e6, h⟩ := rdb_g h
  obtain ⟨z7, e7, h⟩ := rdb_g h
  obtain ⟨z8, e8, h⟩ := rdb_g h
  obtain ⟨V9, e9, h⟩ := rdb_g h
  obtain ⟨_, -, h⟩ := rdb_g h
  obtain ⟨_, -, h⟩ := rdb_g h
  obtain ⟨V12, e12, h⟩ := rdb_g h
  obtain ⟨_, -, h⟩ := rdb_g h
  obtain ⟨_, -, h⟩ := rdb_g h
  obtain ⟨_, -, h⟩ := rdb_g h
  obtain ⟨V16, e16, h⟩ := rdb_g h
  obtain ⟨z17, e17, h⟩ := rdb_g h
  obtain ⟨z18, e18, h⟩ := rdb_g h
  obtain ⟨V19, e19, h⟩ := rdb_g h
  rw [show ((l : Int) + 4).toNat = 4 + l by omega] at e6
  rw [show ((p : Int) + 68).toNat = 68 + p by omega] at e7 e9
  have v61 : V6 1 = up1 (V 1) (4 + l) w := by rw [← e6, up2_row, F1.rw 1 (by decide) (by decide)]
  have r1 : V19 1 = up1 (up1 (V 1) (4 + l) w) (68 + p) z8 := by rw [← e19, up2_c _ _ (by decide), ← e16, up2_c _ _ (by decide), ← e12, up2_c _ _ (by decide), ← e9, up2_row, v61]
  rw [v61, up1_of (by omega)] at e7
  have gp := hG.2 p hp
  have ez8 : z8 = V 1 (68 + p) + g := by rw [← e8, ← e7]; exact wr_id ⟨by omega, by omega⟩
  have n19 : ∀ k : Nat, k ≠ 4 + l → k ≠ 68 + p → V19 1 k = V 1 k := fun k k1 k2 => by rw [r1, up1_of k2, up1_of k1]
  have n68 : V19 1 (68 + p) = z8 := by rw [r1, up1_at]
  have fin : ∀ X2 : Nat → Nat → Int, (∀ k : Nat, k ≠ 20 + l → X2 1 k = V19 1 k) → GB (fun q => if q = p then u p + 999 else u q) (X2 1) ∧ SM (V 1) (X2 1) := fun X2 hX => by
    have n : ∀ k : Nat, k ≠ 4 + l → k ≠ 68 + p → k ≠ 20 + l → X2 1 k = V 1 k := fun k k1 k2 k3 => by rw [hX k k3, n19 k k1 k2]
    refine ⟨⟨fun q hq hb => ?_, fun q hq => ?_⟩, n 76 (by omega) (by omega) (by omega), n 78 (by omega) (by omega) (by omega), n 79 (by omega) (by omega) (by omega)⟩
    · rw [n 76 (by omega) (by omega) (by omega)] at hb
      by_cases e : q = l
      · rw [e, h76] at hb; omega
      · rw [n (4 + q) (by omega) (by omega) (by omega)]
        exact hG.1 q hq hb
    · rw [n 78 (by omega) (by omega) (by omega), n 79 (by omega) (by omega) (by omega)]
      by_cases e : q = p
      · rw [e, hX (68 + p) (by omega), n68, ez8]
        refine ⟨fun hb => by omega, by omega, ?_⟩
        show V 1 (68 + p) + g ≤ 3996 * V 1 79 + (if p = p then u p + 999 else u p)
        rw [if_pos rfl]
        omega
      · rw [n (68 + q) (by omega) (by omega) (by omega)]
        have k := hG.2 q hq
        refine ⟨k.1, k.2.1, ?_⟩
        show V 1 (68 + q) ≤ 3996 * V 1 79 + (if q = p then u p + 999 else u q)
        rw [if_neg e]
        exact k.2.2
  by_cases g1 : g ≤ 0
  · rw [if_pos g1] at h
    have h : X = V19 := h
    rw [h]; exact fin V19 (fun _ _ => rfl)
  · rw [if_neg g1] at h
    obtain ⟨z21, -, h⟩ := rdb_g h
    by_cases g2 : z21 = (-2)
    · rw [if_pos g2] at h
      have h : X = V19 := h
      rw [h]; exact fin V19 (fun _ _ => rfl)
    · rw [if_neg g2] at h
      obtain ⟨_, -, h⟩ := rdb_g h
      obtain ⟨V24, e24, h⟩ := rdb_g h
      have h : X = V24 := h
      rw [h]
      exact fin V24 (fun k hk => by rw [← e24, up2_n _ _ (Or.inr (by omega))])
theorem SM.tr {N M P : Nat → Int} (h : SM N M) (k : SM M P) : SM N P := ⟨k.1.trans h.1, k.2.1.trans h.2.1, k.2.2.trans h.2.2⟩
theorem gi_day {V J X : Nat → Nat → Int} {R : Nat → Nat → Nat} (hD : 0 ≤ V 1 79 ∧ V 1 79 ≤ 9999) (hG : GI (V 1)) (h : f_m_dayGoes V J R X) : GI (X 1) ∧ X 1 79 = V 1 79 + 1 := by
  unfold f_m_dayGoes at h
  refine lop2_k (fun (z : Int) (V2 : Nat → Nat → Int) => 0 ≤ z ∧ SM (V 1) (V2 1) ∧ GB (fun p => if (p : Int) < z then 3996 else 0) (V2 1)) (fun X : Nat → Nat → Int => GI (X 1) ∧ X 1 79 = V 1 79 + 1) (fun rc hrc z V1 hV1 r h => ?_) _ _ _ ⟨by omega, ⟨rfl, rfl, rfl⟩, hG.mono (fun p hp => by rw [if_neg (by omega)]; exact Int.le_refl _)⟩ _ h
  obtain ⟨hz, hS, hV1⟩ := hV1
  by_cases g : 8 ≤ z
  · rw [if_pos g] at h
    refine lop2_k (fun (z : Int) (V2 : Nat → Nat → Int) => 0 ≤ z ∧ SM (V 1) (V2 1) ∧ GB (fun _ => 3996) (V2 1)) (fun X : Nat → Nat → Int => GI (X 1) ∧ X 1 79 = V 1 79 + 1) (fun rc2 hrc2 z2 V2 hV2 r h => ?_) _ _ _ ⟨by omega, hS, hV1.mono (fun p hp => by split <;> omega)⟩ _ h
    obtain ⟨hz2, hS2, hV2⟩ := hV2
    by_cases g2 : 4 ≤ z2
    · rw [if_pos g2] at h
      obtain ⟨t1, et1, h⟩ := rdb_g h
      obtain ⟨t2, et2, h⟩ := rdb_g h
      obtain ⟨V3, e3, h⟩ := rdb_g h
      have h : r = V3 := h
      rw [h]
      have s79 := hS2.2.2
      rw [← et1, s79, wr_id ⟨by omega, by omega⟩] at et2
      have n : ∀ k : Nat, k ≠ 79 → V3 1 k = V2 1 k := fun k hk => by rw [← e3, up2_n _ _ (Or.inr hk)]
      have n79 : V3 1 79 = V 1 79 + 1 := by rw [← e3, up2_s, et2]
      refine ⟨⟨fun l hl hb => ?_, fun p hp => ?_⟩, n79⟩
      · rw [n 76 (by decide)] at hb
        rw [n (4 + l) (by omega)]
        exact hV2.1 l hl hb
      · rw [n 78 (by decide), n79, n (68 + p) (by omega)]
        have k := hV2.2 p hp
        rw [s79] at k
        refine ⟨k.1, k.2.1, ?_⟩
        show V2 1 (68 + p) ≤ 3996 * (V 1 79 + 1) + 0
        have k2 : V2 1 (68 + p) ≤ 3996 * V 1 79 + 3996 := k.2.2
        omega
    · rw [if_neg g2] at h
      obtain ⟨w, hw, -, h⟩ := h
      have hw := q_mLives hw
      have h := jnk_d h
      by_cases g3 : ¬ w = 0
      · rw [if_pos g3] at h
        have qw := hw.on g3
        obtain ⟨_, -, -, h⟩ := rdb_g h
        obtain ⟨_, -, -, h⟩ := rdb_g h
        obtain ⟨s, V4, h4, -, h⟩ := h
        have d4 := k_draws h4
        have h := jnk_if h
        obtain ⟨_, -, h⟩ := rdb_g h
        have h := jnk_if h
        obtain ⟨_, -, h⟩ := rdb_g h
        obtain ⟨V5, e5, h⟩ := rdb_g h
        obtain ⟨V6, h6, F6, h⟩ := h
        obtain ⟨l, rfl⟩ : ∃ l : Nat, z2 = (l : Int) := ⟨z2.toNat, by omega⟩
        have d6 := k_dries (by omega) h6
        have d7 := k_dries2 (by omega) h6
        have b5 : ∀ k : Nat, k ≠ 80 → V5 1 k = V2 1 k := fun k hk => by rw [← e5, up2_c _ _ (by decide), d4 _ _ (Or.inr hk)]
        have b6 : ∀ k : Nat, 52 ≤ k → k ≠ 77 → k ≠ 80 → V6 1 k = V2 1 k := fun k k1 k2 k3 => by rw [d6 k k1 k2, b5 k k3]
        refine hrc2 _ _ ⟨by omega, hS2.tr ⟨b6 76 (by decide) (by decide) (by decide), b6 78 (by decide) (by decide) (by decide), b6 79 (by decide) (by decide) (by decide)⟩, fun q hq hb => ?_, fun p hp => ?_⟩ _ h
        · rw [b6 76 (by decide) (by decide) (by decide)] at hb
          by_cases e : q = l
          · rw [e, qw.1.2.2] at hb; omega
          · rw [d7 (4 + q) (by omega) (by omega) (by omega), b5 (4 + q) (by omega)]
            exact hV2.1 q hq hb
        · rw [b6 78 (by decide) (by decide) (by decide), b6 79 (by decide) (by decide) (by decide), b6 (68 + p) (by omega) (by omega) (by omega)]
          exact hV2.2 p hp
      · rw [if_neg g3] at h
        exact hrc2 _ _ ⟨by omega, hS2, hV2⟩ _ h
  · rw [if_neg g] at h
    obtain ⟨w, hw, -, h⟩ := h
    have hw := q_mPerson hw
    have h := jnk_d h
    by_cases g3 : w = 0
    · rw [if_pos g3] at h
      exact hrc _ _ ⟨by omega, hS, hV1.mono (fun p hp => by split <;> split <;> omega)⟩ _ h
    · rw [if_neg g3] at h
      have qw := hw.on g3
      obtain ⟨s, V4, h4, -, h⟩ := h
      have d4 := k_draws h4
      have n4 : ∀ k : Nat, k ≠ 80 → V4 1 k = V1 1 k := fun k hk => d4 _ _ (Or.inr hk)
      have hS4 : SM (V 1) (V4 1) := hS.tr ⟨n4 76 (by decide), n4 78 (by decide), n4 79 (by decide)⟩
      have hV4 : GB (fun p => if (p : Int) < z then 3996 else 0) (V4 1) := hV1.cg (fun k k1 k2 => n4 k (by omega)) (fun k k1 k2 _ => n4 k (by omega))
      obtain ⟨t, -, h⟩ := rdb_g h
      by_cases g4 : s < t
      · rw [if_pos g4] at h
        refine lop2_k (fun (z2 : Int) (V2 : Nat → Nat → Int) => (0 ≤ z2 ∧ z2 ≤ 4) ∧ SM (V 1) (V2 1) ∧ GB (fun p => if (p : Int) < z then 3996 else if (p : Int) = z then 999 * z2 else 0) (V2 1)) (fun X : Nat → Nat → Int => GI (X 1) ∧ X 1 79 = V 1 79 + 1) (fun rc2 hrc2 z2 V2 hV2 r h => ?_) _ _ _ ⟨by omega, hS4, hV4.mono (fun p hp => by split; omega; split <;> omega)⟩ _ h
        obtain ⟨hz2, hS2, hV2⟩ := hV2
        by_cases g5 : 4 ≤ z2
        · rw [if_pos g5] at h
          exact hrc _ _ ⟨by omega, hS2, hV2.mono (fun p hp => by
            show (if (p : Int) < z then (3996 : Int) else if (p : Int) = z then 999 * z2 else 0) ≤ if (p : Int) < z + 1 then 3996 else 0
            split
            · rw [if_pos (by omega)]; omega
            · split
              · rw [if_pos (by omega)]; omega
              · split <;> omega)⟩ _ h
        · rw [if_neg g5] at h
          obtain ⟨v, hv, -, h⟩ := h
          have hv := q_mLives hv
          have h := jnk_d h
          by_cases g6 : v = 0
          · rw [if_pos g6] at h
            exact hrc2 _ _ ⟨by omega, hS2, hV2.mono (fun p hp => by
              show (if (p : Int) < z then (3996 : Int) else if (p : Int) = z then 999 * z2 else 0) ≤ if (p : Int) < z then 3996 else if (p : Int) = z then 999 * (z2 + 1) else 0
              split
              · omega
              · split <;> omega)⟩ _ h
          · rw [if_neg g6] at h
            have qv := hv.on g6
            obtain ⟨_, -, -, h⟩ := rdb_g h
            obtain ⟨_, -, -, h⟩ := rdb_g h
            obtain ⟨V7, h7, -, h9⟩ := h
            obtain ⟨p, rfl⟩ : ∃ p : Nat, z = (p : Int) := ⟨z.toNat, by omega⟩
            obtain ⟨l, rfl⟩ : ∃ l : Nat, z2 = (l : Int) := ⟨z2.toNat, by omega⟩
            have q78 : bt (V2 1 78) p = 1 := by rw [hS2.2.1, ← hS.2.1]; exact qw.2.2
            obtain ⟨w1, w2⟩ := gb_waters (p := p) (l := l) (by omega) (by omega) qv.1.2.2 q78 ⟨by rw [hS2.2.2]; omega, by
              show (if (p : Int) < (p : Int) then (3996 : Int) else if (p : Int) = (p : Int) then 999 * (l : Int) else 0) ≤ 5000
              rw [if_neg (by omega), if_pos rfl]; omega⟩ hV2 h7
            refine hrc2 _ _ ⟨by omega, hS2.tr w2, w1.mono (fun q hq => ?_)⟩ _ h9
            show (if q = p then (if (p : Int) < (p : Int) then (3996 : Int) else if (p : Int) = (p : Int) then 999 * (l : Int) else 0) + 999 else if (q : Int) < (p : Int) then 3996 else if (q : Int) = (p : Int) then 999 * (l : Int) else 0) ≤ if (q : Int) < (p : Int) then 3996 else if (q : Int) = (p : Int) then 999 * ((l : Int) + 1) else 0
            by_cases e : q = p
            · rw [if_pos e, if_neg (by omega), if_pos rfl, if_neg (by omega), if_pos (by omega)]; omega
            · rw [if_neg e]
              split
              · omega
              · rw [if_neg (by omega), if_neg (by omega)]; omega
      · rw [if_neg g4] at h
        exact hrc _ _ ⟨by omega, hS4, hV4.mono (fun p hp => by split <;> split <;> omega)⟩ _ h
set_option maxRecDepth 100000 in
theorem gi_days {x : Int} {W J X : Nat → Nat → Int} {R : Nat → Nat → Nat} (hD : 0 ≤ W 1 79 ∧ W 1 79 ≤ 9999) (hG : GI (W 1)) (h : f_m_daysGo x W J R X) : GI (X 1) := by
  unfold f_m_daysGo at h
  obtain ⟨V1, e1, h⟩ := rdb_g h
  obtain ⟨V2, e2, h⟩ := rdb_g h
  obtain ⟨V3, e3, h⟩ := rdb_g h
  have v3 : V3 1 = W 1 := by rw [← e3, up2_c _ _ (by decide), ← e2, up2_c _ _ (by decide), ← e1, up2_c _ _ (by decide)]
  refine lop2_k (fun (z : Int) (V : Nat → Nat → Int) => V 1 = W 1) (fun X : Nat → Nat → Int => GI (X 1)) (fun rc hrc z V hV r h => ?_) _ _ _ v3 _ h
  by_cases g : 8 ≤ z
  · rw [if_pos g] at h
    refine lop2_k (fun (z : Int) (V : Nat → Nat → Int) => (0 ≤ V 1 79 ∧ V 1 79 ≤ 9999) ∧ GI (V 1)) (fun X : Nat → Nat → Int => GI (X 1)) (fun rc2 hrc2 z2 V2 hV2 r h => ?_) _ _ _ ⟨by rw [hV]; exact hD, by rw [hV]; exact hG⟩ _ h
    obtain ⟨hd2, hV2⟩ := hV2
    by_cases g2 : x ≤ z2
    · rw [if_pos g2] at h
      have h : r = V2 := h
      rw [h]; exact hV2
    · rw [if_neg g2] at h
      obtain ⟨y, ey, h⟩ := rdb_g h
      by_cases g3 : 9999 ≤ y
      · rw [if_pos g3] at h
        have h : r = V2 := h
        rw [h]; exact hV2
      · rw [if_neg g3] at h
        obtain ⟨V5, h5, -, h⟩ := h
        obtain ⟨k1, k2⟩ := gi_day hd2 hV2 h5
        exact hrc2 _ _ ⟨by omega, k1⟩ _ h
  · rw [if_neg g] at h
    obtain ⟨V5, e5, h⟩ := rdb_g h
    exact hrc _ _ (by rw [← e5, up2_c _ _ (by decide)]; exact hV) _ h
theorem gw_days {x b : Int} {V W Jm X : Nat → Nat → Int} {R Rm : Nat → Nat → Nat} (h : WR R V W) (hG : GW W) (hm : f_m_days x W Jm Rm (b, X)) : GW X := by
  unfold f_m_days at hm
  obtain ⟨y1, -, -, hm⟩ := hm
  by_cases g1 : ¬ y1 = 0
  · rw [if_pos g1] at hm
    obtain ⟨Y, hY, hF, hm⟩ := hm
    obtain ⟨_, -, hm⟩ := rdb_g hm
    simp only [rtn, Prod.mk.injEq] at hm
    obtain ⟨rfl, rfl⟩ := hm
    refine ⟨gi_days ⟨h.1.1.2.2.2.2.2.2.2.2.1, h.1.2⟩ hG.1 hY, ?_⟩
    rw [hF.fl 53 (by decide), hF.rw 3 (by decide) (by decide)]
    exact hG.2
  · rw [if_neg g1] at hm
    simp only [rtn, Prod.mk.injEq] at hm
    rw [hm.2]; exact hG
end
section
-- one plant of a landing alone (own work)
def RLq (b l : Nat) (V : Nat → Nat → Int) (N : Nat → Int) : Prop :=
  RPl (V (b + 3 + 2 * l)) (V (b + 3 + 2 * l + 1)) N l ∧ (∀ p : Nat, p < 8 → RPe (V (b + 11 + p)) N p) ∧ V b 2 = cnt (N 78) ∧ V b 3 = N 79 ∧ V b 4 = N 80 ∧
  (0 ≤ N 76 ∧ N 76 < 16) ∧ (0 ≤ N 77 ∧ N 77 < 16) ∧ (0 ≤ N 78 ∧ N 78 < 256) ∧ 0 ≤ N 79 ∧ (0 ≤ N 80 ∧ N 80 ≤ 65535)
theorem RLz.q {b l : Nat} {V : Nat → Nat → Int} {N : Nat → Int} (h : RLz b V N) (hl : l < 4) : RLq b l V N := ⟨h.1 l hl, h.2⟩
theorem d_goesQ {b l : Nat} {lt a z : Int} {Vx Jx Vm W Jm Ux Um : Nat → Nat → Int} {Rx Rm : Nat → Nat → Nat} (hb : isLa b) (hl : l < 4) (hR : RLq b l Vx (Vm 1)) (hT : RTx Rx Vx W) (ht : Vx (b + 3 + 2 * l) 0 = 1)
    (h0 : W 18 0 = Vm 1 79 ∧ W 18 1 = iRem (Vm 1 79) 7 ∧ W 18 10 = cnt (Vm 1 78)) (h1 : W 18 2 = l ∧ W 18 3 = Vm 1 l ∧ W 18 4 = Vm 1 (4 + l) ∧ W 18 5 = Vm 1 (30 + 7 * l) ∧ W 18 6 = Vm 1 (12 + l) ∧ W 18 7 = Vm 1 (16 + l) ∧ W 18 11 = agM (Vm 1 (20 + l)) (Vm 1 79)) (h2 : W 18 8 = 0 ∧ W 18 9 = 0 ∧ W 18 12 = 0)
    (hx : f_s_goes b l lt Vx Jx Rx (a, Ux)) (hm : f_m_byText 0 lt 9 W Jm Rm (z, Um)) : a = z ∧ (0 ≤ a ∧ a ≤ 999) ∧ (∀ i : Nat, i ≠ 69 → i ≠ 70 → i ≠ 71 → Ux i = Vx i) ∧ ∀ i : Nat, i ≠ 17 → Um i = W i := by
  have bb := isLa_b hb
  simp only [f_s_goes, rdb, Int.toNat_natCast] at hx
  obtain ⟨V4, h4, -, V7, h7, -, V10, h10, -, a2, V13, h13, B13, ar, hx⟩ := hx
  simp only [rtn, Prod.mk.injEq] at hx
  obtain ⟨rfl, rfl⟩ := hx
  obtain ⟨e4, r4⟩ := q_onDay h4
  obtain ⟨e7, r7⟩ := q_of h7 (by omega)
  obtain ⟨e10, r10⟩ := q_byNobody h10
  obtain ⟨hpl, hPe, hn, hd, -⟩ := hR
  have k4 : V4 b = Vx b := r4 b (by omega)
  have k4c : V4 (b + 3 + 2 * l) = Vx (b + 3 + 2 * l) := r4 _ (by omega)
  have k4k : V4 (b + 3 + 2 * l + 1) = Vx (b + 3 + 2 * l + 1) := r4 _ (by omega)
  rw [k4, k4c, k4k, e4] at e7
  rw [e7] at e10
  have hxr : ∀ i : Nat, i ≠ 70 → V10 i = Vx i := fun i hi => by rw [r10 i hi, r7 i hi, r4 i hi]
  have hT2 := hT.cg (Ux := V10) (Um := W) (fun i h1 h2 h3 => hxr i (by omega)) (fun i h1 h2 => rfl)
  have hRF : RF V10 W := felt (b := b) (l := l) (V := Vx) (N := Vm) (f := V10 70) (F := W 18) (d := Vx b 3) (n := Vx b 2) (p := 0) (t := 0) (q := 0) (c := Vx (b + 3 + 2 * l)) (k := Vx (b + 3 + 2 * l + 1)) e10 hpl ht hd hn h0 h1 h2
  obtain ⟨g1, g2, g3⟩ := q_ask (tx := 0) hT2.1.1 (by decide) hT2.1.2 hRF (by decide) h13 hm
  exact ⟨g1, ar, fun i i1 i2 i3 => (B13.row (i := i) (fun k hk => by omega)).trans (hxr i i2), g3⟩
theorem d_endQ {b l : Nat} {s : Int} {Vx Jx Vm Jm Ux Um : Nat → Nat → Int} {Rx Rm : Nat → Nat → Nat} (hb : isLa b) (hl : l < 4) (hD : RLq b l Vx (Vm 1)) (hT : RTx Rx Vx Vm) (h76 : bt (Vm 1 76) l = 1) (h77 : ¬ bt (Vm 1 77) l = 1)
    (hx : f_s_endDay b l s Vx Jx Rx Ux) (hm : f_m_dries l s Vm Jm Rm Um) : RLq b l Ux (Um 1) ∧ ((Vx b 5 = Vm 0 27 → Ux b 5 = Um 0 27) ∧ (Vx b 6 = Vm 0 28 → Ux b 6 = Um 0 28) ∧ (Vx b 7 = Vm 0 29 → Ux b 7 = Um 0 29)) ∧ RTx Rx Ux Um ∧ (Um 1 78 = Vm 1 78 ∧ Um 1 79 = Vm 1 79) ∧ (∀ i : Nat, i ≠ 69 → i ≠ 70 → i ≠ 71 → i ≠ b + 3 + 2 * l → i ≠ b + 3 + 2 * l + 1 → Ux i = Vx i) ∧ (∀ k : Nat, k ≠ 4 + l → k ≠ 12 + l → k ≠ 16 + l → k ≠ 77 → (k < 24 + 7 * l ∨ 30 + 7 * l < k) → Um 1 k = Vm 1 k) := by
  have bb := isLa_b hb
  have hR := hD
  have hR0 := hR
  obtain ⟨hPl, hPe, hn, hd, hx4, hs76, hs77, hs78, h79, h80⟩ := hR
  have hpl := hPl
  obtain ⟨p0, p1, p2, p3, p4, p5, p6, p7, p8, p9, p10, p11, p12, p13⟩ := hpl
  have ht : Vx (b + 3 + 2 * l) 0 = 1 := p0.trans h76
  have nd : ¬ dedX (Vx (b + 3 + 2 * l)) := fun h => h77 (p8.mpr h)
  have nd2 : Vx (b + 3 + 2 * l) 4 < Vx (b + 3 + 2 * l) 3 ∧ Vx (b + 3 + 2 * l) 5 < Vx (b + 3 + 2 * l) 3 := by
    unfold dedX at nd
    omega
  unfold f_m_dries at hm
  obtain ⟨d0, ed0, -, hm⟩ := rdb_g hm
  obtain ⟨r0, er0, -, hm⟩ := rdb_g hm
  rw [show ((l : Int) + 12).toNat = 12 + l by omega] at ed0
  rw [show ((l : Int) + 16).toNat = 16 + l by omega] at er0
  obtain ⟨W3, h3, -, hm⟩ := hm
  obtain ⟨ge, W4, h4, -, -, hm⟩ := hm
  obtain ⟨f1, f2, f3, f4⟩ := q_feelsPlant h3 ⟨by omega, by omega⟩
  rw [Int.toNat_natCast] at f3
  unfold f_s_endDay at hx
  obtain ⟨g, V1, h1, -, -, hx⟩ := hx
  have hT3 := hT.cg (Ux := Vx) (Um := W3) (fun _ _ _ _ => rfl) (fun i i1 i2 => f1 i (by omega))
  obtain ⟨e1, r1, x1, m1⟩ := d_goesQ hb hl hR0 hT3 ht f2 f3 f4 h1 h4
  subst e1
  -- how many go
  have both : ∃ (V4 : Nat → Nat → Int) (W5 W9 : Nat → Nat → Int) (less w : Int), (0 ≤ less ∧ less ≤ 1998) ∧ (∀ i : Nat, i ≠ 69 → i ≠ 70 → i ≠ 71 → V4 i = Vx i) ∧ (∀ i : Nat, i ≠ 17 → i ≠ 18 → W5 i = Vm i) ∧ w = max 0 (Vm 1 (4 + l) - less) ∧ f_s_dryBy (b + 3 + 2 * l) less V4 Jx Rx Ux ∧ W9 = up2 W5 1 (4 + l) w ∧ dTail l w d0 r0 W9 Um := by
    have hW4 : ∀ i : Nat, i ≠ 17 → i ≠ 18 → W4 i = Vm i := fun i i1 i2 => (m1 i i1).trans (f1 i i2)
    have hx := jnk_d hx
    by_cases hs : s = 0
    · rw [if_pos hs] at hx hm
      obtain ⟨c5, ec5, hx⟩ := rdb_g hx
      obtain ⟨V6, h6, -, hx⟩ := hx
      have hx : Ux = V6 := hx
      subst hx
      rw [Int.toNat_natCast] at ec5
      subst ec5
      obtain ⟨y6, e6, -, hm⟩ := rdb_g hm
      obtain ⟨w, hw, hm⟩ := hm
      obtain ⟨W9, e9, hm⟩ := rdb_g hm
      have hw := q_max hw
      rw [show ((l : Int) + 4).toNat = 4 + l by omega, hW4 1 (by decide) (by decide)] at e6
      rw [show ((l : Int) + 4).toNat = 4 + l by omega] at e9
      subst e6
      exact ⟨V1, W4, W9, g, w, by omega, x1, hW4, hw, h6, e9.symm, hm⟩
    · rw [if_neg hs] at hx hm
      obtain ⟨gh, V8, h8, -, -, hx⟩ := hx
      obtain ⟨c5, ec5, hx⟩ := rdb_g hx
      obtain ⟨V6, h6, -, hx⟩ := hx
      have hx : Ux = V6 := hx
      subst hx
      rw [Int.toNat_natCast] at ec5
      subst ec5
      obtain ⟨gm, W81, h81, -, -, hm⟩ := hm
      have hR1 : RLq b l V1 (Vm 1) := by
        refine ⟨?_, fun q hq => ?_, ?_, ?_, ?_, hs76, hs77, hs78, h79, h80⟩
        · rw [x1 (b + 3 + 2 * l) (by omega) (by omega) (by omega), x1 (b + 3 + 2 * l + 1) (by omega) (by omega) (by omega)]; exact hPl
        · rw [x1 (b + 11 + q) (by omega) (by omega) (by omega)]; exact hPe q hq
        · rw [x1 b (by omega) (by omega) (by omega)]; exact hn
        · rw [x1 b (by omega) (by omega) (by omega)]; exact hd
        · rw [x1 b (by omega) (by omega) (by omega)]; exact hx4
      have hT4 := hT3.cg (Ux := V1) (Um := W4) (fun i i1 i2 i3 => x1 i (by omega) (by omega) (by omega)) (fun i i1 i2 => m1 i (by omega))
      have m18 : W4 18 = W3 18 := m1 18 (by decide)
      obtain ⟨e2, r2, x2, m2⟩ := d_goesQ hb hl hR1 hT4 (by rw [x1 _ (by omega) (by omega) (by omega)]; exact ht) (by rw [m18]; exact f2) (by rw [m18]; exact f3) (by rw [m18]; exact f4) h8 h81
      subst e2
      obtain ⟨y6, e6, -, hm⟩ := rdb_g hm
      obtain ⟨w, hw, hm⟩ := hm
      obtain ⟨W9, e9, hm⟩ := rdb_g hm
      have hw := q_max hw
      have hW8 : ∀ i : Nat, i ≠ 17 → i ≠ 18 → W81 i = Vm i := fun i i1 i2 => (m2 i i1).trans (hW4 i i1 i2)
      rw [show ((l : Int) + 4).toNat = 4 + l by omega, hW8 1 (by decide) (by decide)] at e6
      rw [show ((l : Int) + 4).toNat = 4 + l by omega] at e9
      subst e6
      exact ⟨V8, W81, W9, g + gh, w, by omega, fun i i1 i2 i3 => (x2 i i1 i2 i3).trans (x1 i i1 i2 i3), hW8, by omega, h6, e9.symm, hm⟩
  obtain ⟨V4, W5, W9, less, w, hless, hV4, hW5, hw, hdry, e9, htail⟩ := both
  have v4c : V4 (b + 3 + 2 * l) = Vx (b + 3 + 2 * l) := hV4 _ (by omega) (by omega) (by omega)
  have v4k : V4 (b + 3 + 2 * l + 1) = Vx (b + 3 + 2 * l + 1) := hV4 _ (by omega) (by omega) (by omega)
  obtain ⟨w2, d, r, ew, ed, er, ⟨u2, u4, u5, uo⟩, ⟨uk0, uk⟩, ux⟩ := q_sDry hdry (by rw [v4c]; exact p10) hless (by rw [v4c]; exact p12) (by rw [v4c]; exact p13)
  rw [v4c] at ew ed er
  have eww : w2 = w := by rw [ew, hw, p2]
  subst eww
  obtain ⟨d2, r2, ed2, er2, t1, ⟨t12, t16, t77⟩, ⟨t24, tk⟩, tof⟩ := q_dTail hl htail
  have n9 : ∀ k : Nat, k ≠ 4 + l → W9 1 k = Vm 1 k := fun k hk => by rw [e9, up2_n _ _ (Or.inr hk), hW5 1 (by decide) (by decide)]
  have n94 : W9 1 (4 + l) = w2 := by rw [e9, up2_s]
  have o9 : ∀ i : Nat, i ≠ 1 → i ≠ 17 → i ≠ 18 → W9 i = Vm i := fun i i1 i2 i3 => by rw [e9, up2_c _ _ i1]; exact hW5 i i2 i3
  rw [n9 l (by omega)] at er2
  have edd : d2 = d := by rw [ed2, ed, p4, ← ed0]
  have err : r2 = r := by rw [er2, er, p5, ← er0, p1]
  subst edd err
  rw [n9 (8 + l) (by omega), n9 77 (by omega)] at t77
  have hNo : ∀ k : Nat, k ≠ 4 + l → k ≠ 12 + l → k ≠ 16 + l → k ≠ 77 → (k < 24 + 7 * l ∨ 30 + 7 * l < k) → Um 1 k = Vm 1 k := fun k k0 k1 k2 k3 k4 => by rw [tof k k1 k2 k3 k4]; exact n9 k k0
  have h4 : Um 1 (4 + l) = w2 := by rw [tof _ (by omega) (by omega) (by omega) (by omega)]; exact n94
  have dr : 0 ≤ d2 ∧ d2 ≤ 9 := by
    rw [ed2]; split <;> omega
  have rr : 0 ≤ r2 ∧ r2 ≤ 9 := by
    rw [er2]; split <;> omega
  have hor := bt_or (s := Vm 1 77) (p := (l : Int)) ⟨by omega, by omega⟩ ⟨by omega, by omega⟩
  have hor4 := bt_or4 (s := Vm 1 77) (p := (l : Int)) hs77 ⟨by omega, by omega⟩
  have hb77 : ∀ q : Nat, q < 4 → q ≠ l → bt (Um 1 77) q = bt (Vm 1 77) q := fun q hq hne => by
    rw [t77]
    split
    · rw [hor.2 q ⟨by omega, by omega⟩, if_neg (by omega)]
    · rfl
  have UX : ∀ i : Nat, i ≠ 69 → i ≠ 70 → i ≠ 71 → i ≠ b + 3 + 2 * l → i ≠ b + 3 + 2 * l + 1 → Ux i = Vx i := fun i i1 i2 i3 i4 i5 => (ux i i4 i5).trans (hV4 i i1 i2 i3)
  have ub : Ux b = Vx b := UX b (by omega) (by omega) (by omega) (by omega) (by omega)
  refine ⟨⟨?_, fun q hq => ?_, ?_, ?_, ?_, ?_, ?_, ?_, ?_, ?_⟩, ⟨fun d5 => ?_, fun d6 => ?_, fun d7 => ?_⟩, ?_, ⟨hNo 78 (by omega) (by omega) (by omega) (by omega) (by omega), hNo 79 (by omega) (by omega) (by omega) (by omega) (by omega)⟩, UX, hNo⟩
  · have c0 : Ux (b + 3 + 2 * l) 0 = Vx (b + 3 + 2 * l) 0 := by rw [uo 0 (by decide) (by decide) (by decide), v4c]
    have c1 : Ux (b + 3 + 2 * l) 1 = Vx (b + 3 + 2 * l) 1 := by rw [uo 1 (by decide) (by decide) (by decide), v4c]
    have c3 : Ux (b + 3 + 2 * l) 3 = Vx (b + 3 + 2 * l) 3 := by rw [uo 3 (by decide) (by decide) (by decide), v4c]
    have c6 : Ux (b + 3 + 2 * l) 6 = Vx (b + 3 + 2 * l) 6 := by rw [uo 6 (by decide) (by decide) (by decide), v4c]
    have c7 : Ux (b + 3 + 2 * l) 7 = Vx (b + 3 + 2 * l) 7 := by rw [uo 7 (by decide) (by decide) (by decide), v4c]
    unfold RPl dedX
    rw [c0, c1, c3, c6, c7, u2, u4, u5, hNo 76 (by omega) (by omega) (by omega) (by omega) (by omega), hNo l (by omega) (by omega) (by omega) (by omega) (by omega), h4, hNo (8 + l) (by omega) (by omega) (by omega) (by omega) (by omega), t12, t16, hNo (20 + l) (by omega) (by omega) (by omega) (by omega) (by omega)]
    refine ⟨p0, p1, rfl, p3, rfl, rfl, fun j hj => ?_, p7, ?_, p9, by omega, p11, dr, rr⟩
    · cases j with
      | zero => rw [uk0]; exact t24.symm
      | succ j => rw [uk j (by omega), v4k, p6 j (by omega), show 24 + 7 * l + (j + 1) = 24 + 7 * l + j + 1 by omega, tk j (by omega), n9 _ (by omega)]
    · rw [t77, p3]
      by_cases hc : Vm 1 (8 + l) ≤ d2 ∨ Vm 1 (8 + l) ≤ r2
      · rw [if_pos hc, hor.2 l ⟨by omega, by omega⟩, if_pos rfl]
        exact ⟨fun _ => ⟨by omega, hc⟩, fun _ => rfl⟩
      · rw [if_neg hc]
        exact ⟨fun hh => absurd hh h77, fun hh => absurd hh.2 hc⟩
  · refine (hPe q hq).cg (UX _ (by omega) (by omega) (by omega) (by omega) (by omega)) (fun j hj => hNo j (by omega) (by omega) (by omega) (by omega) (by omega)) (hNo 78 (by omega) (by omega) (by omega) (by omega) (by omega))
  · rw [ub, hNo 78 (by omega) (by omega) (by omega) (by omega) (by omega)]; exact hn
  · rw [ub, hNo 79 (by omega) (by omega) (by omega) (by omega) (by omega)]; exact hd
  · rw [ub, hNo 80 (by omega) (by omega) (by omega) (by omega) (by omega)]; exact hx4
  · rw [hNo 76 (by omega) (by omega) (by omega) (by omega) (by omega)]; exact hs76
  · rw [t77]; split <;> omega
  · rw [hNo 78 (by omega) (by omega) (by omega) (by omega) (by omega)]; exact hs78
  · rw [hNo 79 (by omega) (by omega) (by omega) (by omega) (by omega)]; exact h79
  · rw [hNo 80 (by omega) (by omega) (by omega) (by omega) (by omega)]; exact h80
  · rw [ub, t1 0 (by decide), o9 0 (by decide) (by decide) (by decide)]; exact d5
  · rw [ub, t1 0 (by decide), o9 0 (by decide) (by decide) (by decide)]; exact d6
  · rw [ub, t1 0 (by decide), o9 0 (by decide) (by decide) (by decide)]; exact d7
  · exact hT.cg (fun i i1 i2 i3 => UX i (by omega) (by omega) (by omega) (by omega) (by omega)) (fun i i1 i2 => by rw [t1 i (by omega)]; exact o9 i (by omega) (by omega) (by omega))
end
