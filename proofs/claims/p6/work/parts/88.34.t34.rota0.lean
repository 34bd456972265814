-- a rota asked: the tape, the landing (own work)
def rtP (A : Prop) (x y n d : Int) : Prop := A ∧ (1 ≤ x ∧ x ≤ 90) ∧ x ≤ n ∧ d ≤ 9915 ∧ ((0 ≤ y ∧ y ≤ 2) ∨ (10 ≤ y ∧ y ≤ 17))
theorem rx_rota {x y z a : Int} {V V2 J : Nat → Nat → Int} {R : Nat → Nat → Nat} (hz : R32 z) (h : f_s_rota x y z V J R (a, V2)) :
    (rtP ((0 ≤ x ∧ x < 4 ∧ ¬ V (1 + 3 + 2 * x.toNat) 0 = 0) ∧ ¬ dedX (V (1 + 3 + 2 * x.toNat))) y z (V 58 1) (V 1 3) ∧ V2 58 1 = 0) ∨ (¬ rtP ((0 ≤ x ∧ x < 4 ∧ ¬ V (1 + 3 + 2 * x.toNat) 0 = 0) ∧ ¬ dedX (V (1 + 3 + 2 * x.toNat))) y z (V 58 1) (V 1 3) ∧ V2 = V) := by
  generalize hA : ((0 ≤ x ∧ x < 4 ∧ ¬ V (1 + 3 + 2 * x.toNat) 0 = 0) ∧ ¬ dedX (V (1 + 3 + 2 * x.toNat))) = A
  have no : ¬ rtP A y z (V 58 1) (V 1 3) → ∀ c : Int, rtn (c, V) (a, V2) → (rtP A y z (V 58 1) (V 1 3) ∧ V2 58 1 = 0) ∨ (¬ rtP A y z (V 58 1) (V 1 3) ∧ V2 = V) := fun hn c h => by
    simp only [rtn, Prod.mk.injEq] at h
    exact Or.inr ⟨hn, h.2⟩
  unfold f_s_rota at h
  obtain ⟨z1, h1, -, h⟩ := h
  have h1 := q_sAlive h1
  rw [hA] at h1
  by_cases g1 : z1 = 0
  · rw [if_pos g1] at h
    exact no (fun hp => h1.off g1 hp.1) _ h
  rw [if_neg g1] at h
  have q1 := h1.on g1
  obtain ⟨z4, h4, -, h⟩ := h
  have h4 := q_sWithin h4
  by_cases g4 : z4 = 0
  · rw [if_pos g4] at h
    exact no (fun hp => h4.off g4 hp.2.1) _ h
  rw [if_neg g4] at h
  have q4 := h4.on g4
  obtain ⟨z7, e7, -, h⟩ := rdb_g h
  by_cases g7 : y ≤ z7
  · rw [if_pos g7] at h
    obtain ⟨z9, e9, h⟩ := rdb_g h
    by_cases g9 : z9 ≤ 9915
    · rw [if_pos g9] at h
      obtain ⟨z11, h11, -, h⟩ := h
      have h11 := q_sWithin h11
      by_cases g11 : ¬ z11 = 0
      · rw [if_pos g11] at h
        have q11 := h11.on g11
        refine Or.inl ⟨⟨q1, q4, by omega, by omega, Or.inl q11⟩, ?_⟩
        obtain ⟨z14, V14, -, -, h⟩ := h
        obtain ⟨V15, e15, h⟩ := rdb_g h
        have c15 : V15 58 1 = 0 := by rw [← e15, up2_s]
        by_cases g14 : z14 = 0
        · rw [if_pos g14] at h
          by_cases g3 : ¬ z = 0
          · rw [if_pos g3] at h
            obtain ⟨z18, V18, -, hF, h⟩ := h
            simp only [rtn, Prod.mk.injEq] at h
            rw [h.2, hF 58 1 (by omega)]
            exact c15
          · rw [if_neg g3] at h
            obtain ⟨_, -, -, h⟩ := rdb_g h
            simp only [rtn, Prod.mk.injEq] at h
            rw [h.2]
            exact c15
        · rw [if_neg g14] at h
          simp only [rtn, Prod.mk.injEq] at h
          rw [h.2]
          exact c15
      · rw [if_neg g11] at h
        have q11 := h11.off (by omega)
        obtain ⟨z20, e20, h⟩ := rdb_g h
        have w20 := wr_cases (z := z - 10) ⟨by omega, by omega⟩
        obtain ⟨z21, h21, -, h⟩ := h
        have h21 := q_sPlace h21
        by_cases g21 : ¬ z21 = 0
        · rw [if_pos g21] at h
          have q21 := h21.on g21
          refine Or.inl ⟨⟨q1, q4, by omega, by omega, Or.inr (by omega)⟩, ?_⟩
          obtain ⟨z24, V24, -, -, h⟩ := h
          obtain ⟨V15, e15, h⟩ := rdb_g h
          have c15 : V15 58 1 = 0 := by rw [← e15, up2_s]
          by_cases g14 : z24 = 0
          · rw [if_pos g14] at h
            by_cases g3 : ¬ z = 0
            · rw [if_pos g3] at h
              by_cases g4 : z < 10
              · rw [if_pos g4] at h
                obtain ⟨z18, V18, -, hF, h⟩ := h
                simp only [rtn, Prod.mk.injEq] at h
                rw [h.2, hF 58 1 (by omega)]
                exact c15
              · rw [if_neg g4] at h
                obtain ⟨_, -, h⟩ := h
                simp only [rtn, Prod.mk.injEq] at h
                rw [h.2]
                exact c15
            · rw [if_neg g3] at h
              obtain ⟨_, -, -, h⟩ := rdb_g h
              simp only [rtn, Prod.mk.injEq] at h
              rw [h.2]
              exact c15
          · rw [if_neg g14] at h
            simp only [rtn, Prod.mk.injEq] at h
            rw [h.2]
            exact c15
        · rw [if_neg g21] at h
          have q21 := h21.off (by omega)
          refine no (fun hp => ?_) _ h
          obtain ⟨-, -, -, -, hp | hp⟩ := hp
          · exact q11 hp
          · exact q21 (by omega)
    · rw [if_neg g9] at h
      exact no (fun hp => by obtain ⟨-, -, -, hp, -⟩ := hp; omega) _ h
  · rw [if_neg g7] at h
    exact no (fun hp => by obtain ⟨-, -, hp, -⟩ := hp; omega) _ h
theorem rm_rota {x y z a : Int} {W X J : Nat → Nat → Int} {R : Nat → Nat → Nat} (h : f_m_rota x y z W J R (a, X)) :
    (rtP ((0 ≤ x ∧ x < 4 ∧ bt (W 1 76) x = 1) ∧ ¬ bt (W 1 77) x = 1) y z (W 0 4) (W 1 79) ∧ RW W X) ∨ (¬ rtP ((0 ≤ x ∧ x < 4 ∧ bt (W 1 76) x = 1) ∧ ¬ bt (W 1 77) x = 1) y z (W 0 4) (W 1 79) ∧ X = W) := by
  generalize hA : ((0 ≤ x ∧ x < 4 ∧ bt (W 1 76) x = 1) ∧ ¬ bt (W 1 77) x = 1) = A
  have no : ¬ rtP A y z (W 0 4) (W 1 79) → ∀ c : Int, rtn (c, W) (a, X) → (rtP A y z (W 0 4) (W 1 79) ∧ RW W X) ∨ (¬ rtP A y z (W 0 4) (W 1 79) ∧ X = W) := fun hn c h => by
    simp only [rtn, Prod.mk.injEq] at h
    exact Or.inr ⟨hn, h.2⟩
  unfold f_m_rota at h
  obtain ⟨z1, h1, -, h⟩ := h
  have h1 := q_mLives h1
  rw [hA] at h1
  by_cases g1 : z1 = 0
  · rw [if_pos g1] at h
    exact no (fun hp => h1.off g1 hp.1) _ h
  rw [if_neg g1] at h
  have q1 := h1.on g1
  obtain ⟨_, -, -, h⟩ := rdb_g h
  obtain ⟨_, -, -, h⟩ := rdb_g h
  obtain ⟨z4, h4, -, h⟩ := h
  have h4 := q_mIn h4
  by_cases g4 : z4 = 0
  · rw [if_pos g4] at h
    exact no (fun hp => h4.off g4 hp.2.1) _ h
  rw [if_neg g4] at h
  have q4 := h4.on g4
  obtain ⟨z9, h9, -, h⟩ := h
  have h9 := q_mIn h9
  by_cases g9 : ¬ z9 = 0
  · rw [if_pos g9] at h
    have q9 := h9.on g9
    obtain ⟨z12, e12, -, h⟩ := rdb_g h
    by_cases g12 : z12 < y
    · rw [if_pos g12] at h
      exact no (fun hp => by obtain ⟨-, -, hp, -⟩ := hp; omega) _ h
    rw [if_neg g12] at h
    obtain ⟨z14, e14, h⟩ := rdb_g h
    by_cases g14 : z14 ≤ 9915
    · rw [if_pos g14] at h
      refine Or.inl ⟨⟨q1, q4, by omega, by omega, Or.inl q9⟩, ?_⟩
      obtain ⟨V1, e1, h⟩ := rdb_g h
      obtain ⟨V2, e2, h⟩ := rdb_g h
      obtain ⟨V3, e3, h⟩ := rdb_g h
      obtain ⟨V4, e4, h⟩ := rdb_g h
      obtain ⟨w, V5, -, hF, -, h⟩ := h
      obtain ⟨_, -, -, h⟩ := rdb_g h
      obtain ⟨_, -, -, h⟩ := rdb_g h
      have hV5 : ∀ k : Nat, k < 81 → V5 1 k = W 1 k := fun k _ => by rw [hF.rw 1 (by decide) (by decide), ← e4, up2_c _ _ (by decide), ← e3, up2_c _ _ (by decide), ← e2, up2_c _ _ (by decide), ← e1, up2_c _ _ (by decide)]
      exact rw_loop1 rfl hV5 h
    · rw [if_neg g14] at h
      exact no (fun hp => by obtain ⟨-, -, -, hp, -⟩ := hp; omega) _ h
  · rw [if_neg g9] at h
    have q9 := h9.off (by omega)
    obtain ⟨z10, h10, -, h⟩ := h
    have h10 := q_mIn h10
    by_cases g10 : z10 = 0
    · rw [if_pos g10] at h
      refine no (fun hp => ?_) _ h
      obtain ⟨-, -, -, -, hp | hp⟩ := hp
      · exact q9 hp
      · exact h10.off g10 hp
    rw [if_neg g10] at h
    have q10 := h10.on g10
    obtain ⟨z12, e12, -, h⟩ := rdb_g h
    by_cases g12 : z12 < y
    · rw [if_pos g12] at h
      exact no (fun hp => by obtain ⟨-, -, hp, -⟩ := hp; omega) _ h
    rw [if_neg g12] at h
    obtain ⟨z14, e14, h⟩ := rdb_g h
    by_cases g14 : z14 ≤ 9915
    · rw [if_pos g14] at h
      refine Or.inl ⟨⟨q1, q4, by omega, by omega, Or.inr q10⟩, ?_⟩
      obtain ⟨V1, e1, h⟩ := rdb_g h
      obtain ⟨V2, e2, h⟩ := rdb_g h
      obtain ⟨V3, e3, h⟩ := rdb_g h
      obtain ⟨V4, e4, h⟩ := rdb_g h
      obtain ⟨w, V5, -, hF, -, h⟩ := h
      obtain ⟨_, -, -, h⟩ := rdb_g h
      obtain ⟨_, -, -, h⟩ := rdb_g h
      have hV5 : ∀ k : Nat, k < 81 → V5 1 k = W 1 k := fun k _ => by rw [hF.rw 1 (by decide) (by decide), ← e4, up2_c _ _ (by decide), ← e3, up2_c _ _ (by decide), ← e2, up2_c _ _ (by decide), ← e1, up2_c _ _ (by decide)]
      refine lop2_k (fun _ V => ∀ k : Nat, k < 81 → V 1 k = W 1 k) (fun r : Int × (Nat → Nat → Int) => RW W r.2) (fun rc hrc z V hV r h => ?_) _ _ _ hV5 _ h
      obtain ⟨_, -, -, h⟩ := rdb_g h
      obtain ⟨_, -, -, h⟩ := rdb_g h
      obtain ⟨_, -, -, h⟩ := rdb_g h
      obtain ⟨_, -, -, h⟩ := rdb_g h
      by_cases g : z = 0
      · rw [if_pos g] at h
        obtain ⟨V9, e9, h⟩ := rdb_g h
        obtain ⟨_, -, h⟩ := rdb_g h
        simp only [rtn] at h
        subst h
        show RW W V9
        exact ⟨by rw [← e9, up2_s], fun k hk => by rw [← e9, up2_c _ _ (by decide)]; exact hV k hk⟩
      · rw [if_neg g] at h
        split at h
        · obtain ⟨V9, e9, h⟩ := rdb_g h
          have hV9 : RW W V9 := ⟨by rw [← e9, up2_s], fun k hk => by rw [← e9, up2_c _ _ (by decide)]; exact hV k hk⟩
          refine lop2_k (fun _ _ => True) (fun r : Int × (Nat → Nat → Int) => RW W r.2) (fun rc2 hrc2 za zb _ r h => ?_) _ _ _ trivial _ h
          split at h
          · simp only [rtn] at h
            subst h
            exact hV9
          · obtain ⟨_, -, -, h⟩ := rdb_g h
            have h := jnk_d h
            split at h
            · obtain ⟨_, -, h⟩ := rdb_g h
              exact hrc2 _ _ trivial _ h
            · obtain ⟨_, -, h⟩ := rdb_g h
              exact hrc2 _ _ trivial _ h
        · obtain ⟨_, V2, -, hF2, -, h⟩ := h
          have hV2 : ∀ k : Nat, k < 81 → V2 1 k = W 1 k := fun k hk => by rw [hF2.rw 1 (by decide) (by decide)]; exact hV k hk
          obtain ⟨_, -, -, h⟩ := rdb_g h
          split at h
          · exact hrc _ _ hV2 _ h
          · obtain ⟨_, V3, -, hF3, -, h⟩ := h
            have hV3 : ∀ k : Nat, k < 81 → V3 1 k = W 1 k := fun k hk => by rw [hF3.rw 1 (by decide) (by decide)]; exact hV2 k hk
            obtain ⟨_, -, -, h⟩ := rdb_g h
            obtain ⟨_, -, -, h⟩ := rdb_g h
            split at h
            · exact hrc _ _ hV3 _ h
            · exact hrc _ _ hV3 _ h
    · rw [if_neg g14] at h
      exact no (fun hp => by obtain ⟨-, -, -, hp, -⟩ := hp; omega) _ h
theorem t_rota {x y z a b : Int} {V V2 J W Jm X : Nat → Nat → Int} {R Rm : Nat → Nat → Nat} (h : WR R V W) (hz : R32 z) (hx : f_s_rota x y z V J R (a, V2)) (hm : f_m_rota x y z W Jm Rm (b, X)) : TP V2 X ∧ ∀ k : Nat, k < 81 → X 1 k = W 1 k := by
  have e1 := h.1.1.isA (x := x)
  have e2 : V 58 1 = W 0 4 := h.2.2.2.2.1
  have e3 : V 1 3 = W 1 79 := h.1.1.2.2.2.1
  have rx := rx_rota hz hx
  have rm := rm_rota hm
  rw [e2, e3] at rx
  rcases rx with ⟨p1, p2⟩ | ⟨p1, p2⟩
  · have p3 : rtP ((0 ≤ x ∧ x < 4 ∧ bt (W 1 76) x = 1) ∧ ¬ bt (W 1 77) x = 1) y z (W 0 4) (W 1 79) := ⟨e1.mp p1.1, p1.2⟩
    rcases rm with ⟨q1, q2⟩ | ⟨q1, q2⟩
    · exact ⟨TP.nil p2 q2.1, q2.2⟩
    · exact absurd p3 q1
  · rcases rm with ⟨q1, q2⟩ | ⟨q1, q2⟩
    · exact absurd ⟨e1.mpr q1.1, q1.2⟩ p1
    · rw [p2, q2]
      exact ⟨h.2.2.2.2, fun _ _ => rfl⟩
theorem FBm.kt {m : Nat} {W X : Nat → Nat → Int} (h : FBm m W X) (ht : ∀ i : Nat, i < 17 → 11 ≤ i → m.testBit (64 + i) = false) : ∀ i : Nat, 11 ≤ i → i ≤ 16 → X i = W i := fun i h1 h2 => h.rw i (by omega) (ht i (by omega) h1)
