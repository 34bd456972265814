-- answers: tried, both sides (own work)
def tC (N : Nat → Int) (y : Int) : Prop := (0 ≤ y ∧ y ≤ 3) ∨ (0 ≤ y - 10 ∧ y - 10 < 4 ∧ bt (N 76) (y - 10) = 1) ∨ (0 ≤ y - 20 ∧ y - 20 < 8 ∧ bt (N 78) (y - 20) = 1)
theorem rx_tried {x y a : Int} {V V2 J : Nat → Nat → Int} {R : Nat → Nat → Nat} {N : Nat → Int} (hy : R32 y) (hR : RLz 1 V N) (h : f_s_tried x y V J R (a, V2)) : (¬ ((1 ≤ x ∧ x ≤ 60) ∧ tC N y) ∧ a = -1) ∨ ((1 ≤ x ∧ x ≤ 60) ∧ tC N y ∧ ∃ V7 V8 : Nat → Nat → Int, f_s_copyT V J R V7 ∧ f_s_goBy 39 x V7 J R V8 ∧ FB (fun i k : Nat => (39 ≤ i ∧ i ≤ 39 + 18) ∨ (69 ≤ i ∧ i ≤ 71)) V7 V8 ∧
    (y = 0 → a = V8 39 5) ∧ (y = 1 → a = V8 39 6) ∧ (y = 2 → ∃ s : Int, f_s_deadBits 39 V8 J R s ∧ f_s_bitCount s a) ∧ (y = 3 → a = V8 39 7) ∧ (10 ≤ y ∧ y < 20 → a = V8 (39 + 3 + 2 * (y - 10).toNat) 2) ∧ (20 ≤ y → a = wr (V8 (39 + 11 + (y - 20).toNat) 3 - V8 (1 + 11 + (y - 20).toNat) 3))) := by
  unfold f_s_tried at h
  obtain ⟨z1, h1, -, h⟩ := h
  have h1 := q_sWithin h1
  by_cases g1 : z1 = 0
  · rw [if_pos g1] at h
    simp only [rtn, Prod.mk.injEq] at h
    exact Or.inl ⟨fun hp => h1.off g1 hp.1, h.1⟩
  rw [if_neg g1] at h
  obtain ⟨z4, h4, -, h⟩ := h
  have h4 := q_canTry hR hy h4
  by_cases g4 : ¬ z4 = 0
  · rw [if_pos g4] at h
    have q4 := h4.on g4
    refine Or.inr ⟨h1.on g1, q4, ?_⟩
    obtain ⟨V7, h7, -, h⟩ := h
    obtain ⟨V8, h8, F8, h⟩ := h
    refine ⟨V7, V8, h7, h8, F8, ?_⟩
    by_cases c20 : y < 20
    · rw [if_pos c20] at h
      by_cases c10 : y < 10
      · rw [if_pos c10] at h
        by_cases c0 : ¬ y = 0
        · rw [if_pos c0] at h
          by_cases c1 : ¬ y = 1
          · rw [if_pos c1] at h
            by_cases c2 : ¬ y = 2
            · rw [if_pos c2] at h
              obtain ⟨z, ez, h⟩ := rdb_g h
              simp only [rtn, Prod.mk.injEq] at h
              exact ⟨fun e => absurd e c0, fun e => absurd e c1, fun e => absurd e c2, fun _ => by rw [h.1, ez], fun e => by omega, fun e => by omega⟩
            · rw [if_neg c2] at h
              obtain ⟨z, hz, h⟩ := h
              obtain ⟨w, hw, -, h⟩ := h
              simp only [rtn, Prod.mk.injEq] at h
              exact ⟨fun e => absurd e c0, fun e => absurd e c1, fun _ => ⟨z, hz, by rw [h.1]; exact hw⟩, fun e => by omega, fun e => by omega, fun e => by omega⟩
          · rw [if_neg c1] at h
            obtain ⟨z, ez, h⟩ := rdb_g h
            simp only [rtn, Prod.mk.injEq] at h
            exact ⟨fun e => absurd e c0, fun _ => by rw [h.1, ez], fun e => by omega, fun e => by omega, fun e => by omega, fun e => by omega⟩
        · rw [if_neg c0] at h
          obtain ⟨z, ez, h⟩ := rdb_g h
          simp only [rtn, Prod.mk.injEq] at h
          exact ⟨fun _ => by rw [h.1, ez], fun e => by omega, fun e => by omega, fun e => by omega, fun e => by omega, fun e => by omega⟩
      · rw [if_neg c10] at h
        obtain ⟨c, ec, h⟩ := rdb_g h
        obtain ⟨z, ez, h⟩ := rdb_g h
        simp only [rtn, Prod.mk.injEq] at h
        exact ⟨fun e => by omega, fun e => by omega, fun e => by omega, fun e => by omega, fun _ => by rw [h.1, ← ez, ← ec], fun e => by omega⟩
    · rw [if_neg c20] at h
      obtain ⟨c, ec, h⟩ := rdb_g h
      obtain ⟨z, ez, h⟩ := rdb_g h
      obtain ⟨c2, ec2, h⟩ := rdb_g h
      obtain ⟨z2, ez2, h⟩ := rdb_g h
      obtain ⟨w, ew, h⟩ := rdb_g h
      rw [Nat.one_mul] at ec ec2
      simp only [rtn, Prod.mk.injEq] at h
      exact ⟨fun e => by omega, fun e => by omega, fun e => by omega, fun e => by omega, fun e => by omega, fun _ => by rw [h.1, ← ew, ← ez, ← ez2, ← ec, ← ec2]⟩
  · rw [if_neg g4] at h
    simp only [rtn, Prod.mk.injEq] at h
    exact Or.inl ⟨fun hp => h4.off (by omega) hp.2, h.1⟩
theorem rm_tried {x y b : Int} {W X J : Nat → Nat → Int} {R : Nat → Nat → Nat} (h : f_m_tried x y W J R (b, X)) : (¬ ((1 ≤ x ∧ x ≤ 60) ∧ tC (W 1) y) ∧ b = -1) ∨ ((1 ≤ x ∧ x ≤ 60) ∧ tC (W 1) y ∧ ∃ V8 : Nat → Nat → Int, f_m_daysGo x (cpN W 1 2 81) J R V8 ∧
    (y = 0 → b = V8 0 27) ∧ (y = 1 → b = V8 0 28) ∧ (y = 2 → b = cnt (V8 1 77)) ∧ (y = 3 → b = V8 0 29) ∧ (10 ≤ y ∧ y < 20 → b = V8 1 (y - 6).toNat) ∧ (20 ≤ y → b = V8 19 (y - 20).toNat)) := by
  have no : ∀ {V : Nat → Nat → Int}, ¬ ((1 ≤ x ∧ x ≤ 60) ∧ tC (W 1) y) → rtn (-1, V) (b, X) → (¬ ((1 ≤ x ∧ x ≤ 60) ∧ tC (W 1) y) ∧ b = -1) ∨ ((1 ≤ x ∧ x ≤ 60) ∧ tC (W 1) y ∧ ∃ V8 : Nat → Nat → Int, f_m_daysGo x (cpN W 1 2 81) J R V8 ∧
    (y = 0 → b = V8 0 27) ∧ (y = 1 → b = V8 0 28) ∧ (y = 2 → b = cnt (V8 1 77)) ∧ (y = 3 → b = V8 0 29) ∧ (10 ≤ y ∧ y < 20 → b = V8 1 (y - 6).toNat) ∧ (20 ≤ y → b = V8 19 (y - 20).toNat)) := fun hn h => by
    simp only [rtn, Prod.mk.injEq] at h
    exact Or.inl ⟨hn, h.1⟩
  unfold f_m_tried at h
  obtain ⟨z1, h1, -, h⟩ := h
  by_cases g1 : ¬ z1 = 0
  · rw [if_pos g1] at h
    have q1 := (q_mIn h1).on g1
    obtain ⟨z4, h4, -, h⟩ := h
    by_cases g4 : z4 = 0
    · rw [if_pos g4] at h
      exact no (fun hp => (q_mIn h4).off g4 hp.1) h
    rw [if_neg g4] at h
    have q4 := (q_mIn h4).on g4
    obtain ⟨V7, e7, h⟩ := rdb_g h
    obtain ⟨V8, h8, -, h⟩ := h
    rw [← e7] at h8
    have h := jnk_d h
    refine Or.inr ⟨q4, Or.inl q1, V8, h8, ?_⟩
    by_cases c0 : ¬ y = 0
    · rw [if_pos c0] at h
      by_cases c1 : ¬ y = 1
      · rw [if_pos c1] at h
        by_cases c2 : ¬ y = 2
        · rw [if_pos c2] at h
          obtain ⟨z, ez, h⟩ := rdb_g h
          obtain ⟨V9, -, h⟩ := rdb_g h
          simp only [rtn, Prod.mk.injEq] at h
          exact ⟨fun e => absurd e c0, fun e => absurd e c1, fun e => absurd e c2, fun _ => by rw [h.1, ez], fun e => by omega, fun e => by omega⟩
        · rw [if_neg c2] at h
          obtain ⟨z, ez, h⟩ := rdb_g h
          obtain ⟨w, hw, h⟩ := h
          obtain ⟨V9, -, h⟩ := rdb_g h
          simp only [rtn, Prod.mk.injEq] at h
          exact ⟨fun e => absurd e c0, fun e => absurd e c1, fun _ => by rw [h.1, q_bits hw, ez], fun e => by omega, fun e => by omega, fun e => by omega⟩
      · rw [if_neg c1] at h
        obtain ⟨z, ez, h⟩ := rdb_g h
        obtain ⟨V9, -, h⟩ := rdb_g h
        simp only [rtn, Prod.mk.injEq] at h
        exact ⟨fun e => absurd e c0, fun _ => by rw [h.1, ez], fun e => by omega, fun e => by omega, fun e => by omega, fun e => by omega⟩
    · rw [if_neg c0] at h
      obtain ⟨z, ez, h⟩ := rdb_g h
      obtain ⟨V9, -, h⟩ := rdb_g h
      simp only [rtn, Prod.mk.injEq] at h
      exact ⟨fun _ => by rw [h.1, ez], fun e => by omega, fun e => by omega, fun e => by omega, fun e => by omega, fun e => by omega⟩
  rw [if_neg g1] at h
  have n1 := (q_mIn h1).off (by omega)
  obtain ⟨z27, h27, -, h⟩ := h
  by_cases g27 : z27 = 0
  · rw [if_pos g27] at h
    have n27 := (q_mIn h27).off g27
    obtain ⟨z29, h29, -, h⟩ := h
    by_cases g29 : z29 = 0
    · rw [if_pos g29] at h
      have n29 := (q_mIn h29).off g29
      have nC : ¬ ((1 ≤ x ∧ x ≤ 60) ∧ tC (W 1) y) := fun hp => by
        rcases hp.2 with hq | hq | hq
        · exact n1 hq
        · omega
        · omega
      obtain ⟨z31, -, -, h⟩ := h
      by_cases g31 : z31 = 0
      · rw [if_pos g31] at h; exact no nC h
      · rw [if_neg g31] at h; exact no nC h
    rw [if_neg g29] at h
    have q29 := (q_mIn h29).on g29
    obtain ⟨z35, h35, -, h⟩ := h
    have h35 := q_mPerson h35
    by_cases g35 : z35 = 0
    · rw [if_pos g35] at h
      have n35 := h35.off g35
      have nC : ¬ ((1 ≤ x ∧ x ≤ 60) ∧ tC (W 1) y) := fun hp => by
        rcases hp.2 with hq | hq | hq
        · exact n1 hq
        · omega
        · exact n35 hq
      obtain ⟨z31, -, -, h⟩ := h
      by_cases g31 : z31 = 0
      · rw [if_pos g31] at h; exact no nC h
      · rw [if_neg g31] at h; exact no nC h
    rw [if_neg g35] at h
    have q35 := h35.on g35
    obtain ⟨z41, h41, -, h⟩ := h
    by_cases g41 : z41 = 0
    · rw [if_pos g41] at h
      exact no (fun hp => (q_mIn h41).off g41 hp.1) h
    rw [if_neg g41] at h
    have q41 := (q_mIn h41).on g41
    obtain ⟨V7, e7, h⟩ := rdb_g h
    obtain ⟨V8, h8, -, h⟩ := h
    rw [← e7] at h8
    obtain ⟨z, ez, h⟩ := rdb_g h
    obtain ⟨V9, -, h⟩ := rdb_g h
    simp only [rtn, Prod.mk.injEq] at h
    exact Or.inr ⟨q41, Or.inr (Or.inr q35), V8, h8, fun e => by omega, fun e => by omega, fun e => by omega, fun e => by omega, fun e => by omega, fun _ => by rw [h.1, ez]⟩
  rw [if_neg g27] at h
  have q27 := (q_mIn h27).on g27
  obtain ⟨z49, h49, -, h⟩ := h
  have h49 := q_mPlant h49
  by_cases g49 : ¬ z49 = 0
  · rw [if_pos g49] at h
    have q49 := h49.on g49
    obtain ⟨z52, h52, -, h⟩ := h
    by_cases g52 : z52 = 0
    · rw [if_pos g52] at h
      exact no (fun hp => (q_mIn h52).off g52 hp.1) h
    rw [if_neg g52] at h
    have q52 := (q_mIn h52).on g52
    obtain ⟨V7, e7, h⟩ := rdb_g h
    obtain ⟨V8, h8, -, h⟩ := h
    rw [← e7] at h8
    obtain ⟨z, ez, -, h⟩ := rdb_g h
    obtain ⟨V9, -, h⟩ := rdb_g h
    simp only [rtn, Prod.mk.injEq] at h
    exact Or.inr ⟨q52, Or.inr (Or.inl q49), V8, h8, fun e => by omega, fun e => by omega, fun e => by omega, fun e => by omega, fun _ => by rw [h.1, ez], fun e => by omega⟩
  rw [if_neg g49] at h
  have n49 := h49.off (by omega)
  have nC : ¬ ((1 ≤ x ∧ x ≤ 60) ∧ tC (W 1) y) := fun hp => by
    rcases hp.2 with hq | hq | hq
    · exact n1 hq
    · exact n49 hq
    · omega
  obtain ⟨z59, h59, -, h⟩ := h
  rw [if_pos (mIn_no h59 (by omega))] at h
  obtain ⟨z31, -, -, h⟩ := h
  by_cases g31 : z31 = 0
  · rw [if_pos g31] at h; exact no nC h
  · rw [if_neg g31] at h; exact no nC h
theorem e_tried {x y a b : Int} {V V2 J W Jm X : Nat → Nat → Int} {R Rm : Nat → Nat → Nat} (hy : R32 y) (h : WR R V W) (hx : f_s_tried x y V J R (a, V2)) (hm : f_m_tried x y W Jm Rm (b, X)) : a = b := by
  rcases rx_tried hy h.1.1 hx with ⟨p1, p2⟩ | ⟨p1, p2, V7, V8, h7, h8, F8, a0, a1, a2, a3, a10, a20⟩
  · rcases rm_tried hm with ⟨r1, r2⟩ | ⟨r1, r2, -⟩
    · rw [p2, r2]
    · exact absurd ⟨r1, r2⟩ p1
  · rcases rm_tried hm with ⟨r1, r2⟩ | ⟨r1, r2, W8, k8, b0, b1, b2, b3, b10, b20⟩
    · exact absurd ⟨p1, p2⟩ r1
    · obtain ⟨c1, c2⟩ := q_copy (d := 39) (s := 1) (by omega) h7
      have w1 : cpN W 1 2 81 1 = W 1 := cpN_n (by decide)
      have wo : ∀ i : Nat, i ≠ 2 → cpN W 1 2 81 i = W i := fun i hi => cpN_n hi
      have hR7 : RLz 39 V7 (cpN W 1 2 81 1) := h.1.1.copy c1 (fun k _ => by rw [w1])
      have hT7 : RTx R V7 (cpN W 1 2 81) := h.2.2.2.1.1.cg (fun i i1 i2 i3 => c2 i (by omega)) (fun i i1 i2 => wo i (by omega))
      obtain ⟨⟨d1, d2, d3, d4⟩, -, -⟩ := d_days (Or.inr (Or.inr rfl)) hR7 hT7 (by rw [w1]; exact h.1.2) h8 k8
      have g19 := g19_days k8
      rcases p2 with q | q | q
      · rcases (show y = 0 ∨ y = 1 ∨ y = 2 ∨ y = 3 by omega) with e | e | e | e
        · rw [a0 e, b0 e]; exact d2
        · rw [a1 e, b1 e]; exact d3
        · obtain ⟨s, hs, hb⟩ := a2 e
          have es := q_deadB d1 hs
          have r77 := d1.2.2.2.2.2.2.1
          rw [q_bitCount hb ⟨by omega, by omega⟩, b2 e, es]
        · rw [a3 e, b3 e]; exact d4
      · rw [a10 ⟨by omega, by omega⟩, b10 ⟨by omega, by omega⟩, show (y - 6).toNat = 4 + (y - 10).toNat by omega]
        exact (d1.1 (y - 10).toNat (by omega)).2.2.1
      · have hp : (y - 20).toNat < 8 := by omega
        rw [a20 (by omega), b20 (by omega), g19 _ hp, (d1.2.1 _ hp).2.2.2, F8 (1 + 11 + (y - 20).toNat) 3 (by omega), c2 (1 + 11 + (y - 20).toNat) (by omega), (h.1.1.2.1 _ hp).2.2.2, w1]
