-- the world on both sides; law and rule (own work)
/-- six texts, all apart -/
def TXD (R : Nat → Nat → Nat) : Prop := isTx (R 72 1) ∧ ¬ R 60 0 = R 72 1 ∧ (∀ k : Nat, k < 4 → ¬ R 66 k = R 72 1 ∧ ¬ R 66 k = R 60 0) ∧ ∀ j k : Nat, j < 4 → k < 4 → j ≠ k → ¬ R 66 j = R 66 k
def WR (R : Nat → Nat → Nat) (V W : Nat → Nat → Int) : Prop :=
  (RLz 1 V (W 1) ∧ W 1 79 ≤ 9999) ∧ V 0 3 = W 0 53 ∧ (V 0 3 = 0 ∨ (RLz 20 V (W 3) ∧ W 3 79 ≤ 9999)) ∧ (RTx R V W ∧ TXD R) ∧ TP V W
theorem RLz.cg2 {b : Nat} {V U : Nat → Nat → Int} {N M : Nat → Int} (h : RLz b V N) (hV : ∀ i : Nat, b ≤ i → i ≤ b + 18 → U i = V i) (hN : ∀ k : Nat, k < 81 → M k = N k) : RLz b U M := by
  have e := h
  obtain ⟨a1, a2, a3, a4, a5, a6, a7, a8, a9, a10⟩ := h
  exact e.cg (fun i i1 i2 => hV i (by omega) i2) (fun k hk => hN k (by omega)) (by rw [hV b (by omega) (by omega)]) (by rw [hV b (by omega) (by omega), hN 79 (by decide)]; exact a4) (by rw [hV b (by omega) (by omega), hN 80 (by decide)]; exact a5) (by rw [hN 79 (by decide)]; exact a9) (by rw [hN 80 (by decide)]; exact a10)
theorem TP.cg {V W U X : Nat → Nat → Int} (h : TP V W) (h1 : U 58 1 = V 58 1) (h2 : U 59 = V 59) (h3 : X 0 4 = W 0 4) (h4 : X 4 = W 4) : TP U X := by
  unfold TP at h ⊢
  rw [h1, h2, h3, h4]
  exact h
/-- what the rest may change -/
theorem WR.keep {R : Nat → Nat → Nat} {V W U X : Nat → Nat → Int} (h : WR R V W) (hx : ∀ i : Nat, (1 ≤ i ∧ i ≤ 38) ∨ (58 ≤ i ∧ i ≤ 59) ∨ (61 ≤ i ∧ i ≤ 65) ∨ (73 ≤ i ∧ i ≤ 97) → U i = V i) (h0 : U 0 3 = V 0 3) (m1 : ∀ k : Nat, k < 81 → X 1 k = W 1 k) (m3 : X 3 = W 3) (m4 : X 4 = W 4) (mt : ∀ i : Nat, 11 ≤ i → i ≤ 16 → X i = W i) (m04 : X 0 4 = W 0 4) (m053 : X 0 53 = W 0 53) : WR R U X := by
  obtain ⟨⟨a1, a2⟩, a3, a4, ⟨a5, a6⟩, a7⟩ := h
  refine ⟨⟨a1.cg2 (fun i i1 i2 => hx i (by omega)) m1, by rw [m1 79 (by decide)]; exact a2⟩, by rw [h0, m053]; exact a3, ?_, ⟨a5.cg (fun i i1 i2 i3 => hx i (by omega)) mt, a6⟩, a7.cg (by rw [hx 58 (by decide)]) (hx 59 (by decide)) m04 m4⟩
  rw [h0, m3]
  rcases a4 with a4 | ⟨a4, a8⟩
  · exact Or.inl a4
  · exact Or.inr ⟨a4.cg2 (fun i i1 i2 => hx i (by omega)) (fun _ _ => rfl), a8⟩
theorem q_mIn {a b c r : Int} (h : f_m_in a b c r) : Sq r (b ≤ a ∧ a ≤ c) := by
  unfold f_m_in at h
  unfold Sq
  by_cases g : a < b
  · rw [if_pos g] at h; have h : r = 0 := h; omega
  · rw [if_neg g] at h
    by_cases g2 : c < a
    · rw [if_pos g2] at h; have h : r = 0 := h; omega
    · rw [if_neg g2] at h; have h : r = 1 := h; omega
theorem q_sWithin {a b c r : Int} (h : f_s_isWithin a b c r) : Sq r (b ≤ a ∧ a ≤ c) := by
  unfold f_s_isWithin at h
  unfold Sq
  by_cases g : a < b
  · rw [if_pos g] at h; have h : r = 0 := h; omega
  · rw [if_neg g] at h
    by_cases g2 : c < a
    · rw [if_pos g2] at h; have h : r = 0 := h; omega
    · rw [if_neg g2] at h; have h : r = 1 := h; omega
theorem q_sPlace {a c r : Int} (h : f_s_isPlace a c r) : Sq r (0 ≤ a ∧ a < c) := by
  unfold f_s_isPlace at h
  unfold Sq
  by_cases g : a < 0
  · rw [if_pos g] at h; have h : r = 0 := h; omega
  · rw [if_neg g] at h
    by_cases g2 : c ≤ a
    · rw [if_pos g2] at h; have h : r = 0 := h; omega
    · rw [if_neg g2] at h; have h : r = 1 := h; omega
theorem isTx_far {t u : Nat} (h : isTx t) (k : isTx u) (hne : ¬ t = u) : ∀ i : Nat, t ≤ i → i ≤ t + 4 → ¬ (u ≤ i ∧ i ≤ u + 4) := by
  intro i h1 h2
  rcases h with rfl | rfl | rfl | rfl | rfl | rfl <;> rcases k with rfl | rfl | rfl | rfl | rfl | rfl <;> omega
/-- the reference: law and rule, where it reads -/
theorem q_mReads0 {x n b : Int} {W J X : Nat → Nat → Int} {R : Nat → Nat → Nat} (h : f_m_reads x n W J R (b, X)) (hn : ¬ ((1 ≤ n ∧ n ≤ 200) ∧ n ≤ W 0 4)) : b = -1 ∧ X = W := by
  unfold f_m_reads at h
  obtain ⟨z1, h1, -, h⟩ := h
  have h1 := q_mIn h1
  by_cases g : z1 = 0
  · rw [if_pos g] at h
    simp only [rtn, Prod.mk.injEq] at h
    exact h
  · rw [if_neg g] at h
    have g1 := h1.on g
    obtain ⟨z4, e4, -, h⟩ := rdb_g h
    rw [if_neg (by omega)] at h
    simp only [rtn, Prod.mk.injEq] at h
    exact h
/-- a text is read into the spare one, which then takes place x -/
theorem WR.text {R R2 : Nat → Nat → Nat} {V W U X : Nat → Nat → Int} {a b : Int} {x : Nat} (h : WR R V W) (hx5 : x < 5) (hD : RDD (R 72 1) x a b W U X) (hU : ∀ i : Nat, i ≠ 72 → ¬ (R 72 1 ≤ i ∧ i ≤ R 72 1 + 4) → U i = V i)
    (hm1 : X 1 = W 1) (hm3 : X 3 = W 3) (hm53 : X 0 53 = W 0 53)
    (h1 : a ≤ 0 → R2 = R) (h2 : 0 < a → R2 72 1 = (if x = 0 then R 60 0 else R 66 (x - 1)) ∧ R2 60 0 = (if x = 0 then R 72 1 else R 60 0) ∧ ∀ k : Nat, k < 4 → R2 66 k = (if x = k + 1 then R 72 1 else R 66 k)) : a = b ∧ WR R2 (up2 U 58 1 0) X := by
  obtain ⟨⟨a1, a2⟩, a3, a4, ⟨a5, a6⟩, a7⟩ := h
  obtain ⟨d1, d2, d3⟩ := hD
  have tb := isTx_b a6.1
  obtain ⟨t1, t2, t3, t4⟩ := a6
  have ts : ∀ i : Nat, i ≠ 58 → i ≠ 72 → ¬ (R 72 1 ≤ i ∧ i ≤ R 72 1 + 4) → up2 U 58 1 0 i = V i := fun i i1 i2 i3 => (up2_c _ _ i1).trans (hU i i2 i3)
  refine ⟨d1, ⟨a1.cg2 (fun i i1 i2 => ts i (by omega) (by omega) (by omega)) (fun k _ => by rw [hm1]), by rw [hm1]; exact a2⟩, by rw [ts 0 (by decide) (by decide) (by omega), hm53]; exact a3, ?_, ?_, ?_⟩
  · rw [ts 0 (by decide) (by decide) (by omega), hm3]
    rcases a4 with a4 | ⟨a4, a8⟩
    · exact Or.inl a4
    · exact Or.inr ⟨a4.cg2 (fun i i1 i2 => ts i (by omega) (by omega) (by omega)) (fun _ _ => rfl), a8⟩
  · -- the texts
    have old : ∀ u tx : Nat, isTx u → ¬ u = R 72 1 → RTz u tx V W → (a < 0 ∨ tx ≠ x) → RTz u tx (up2 U 58 1 0) X := fun u tx hu hne hr hc => by
      have ub := isTx_b hu
      have e : ∀ i : Nat, u ≤ i → i ≤ u + 4 → up2 U 58 1 0 i = V i := fun i i1 i2 => ts i (by omega) (by omega) (isTx_far hu t1 hne i i1 i2)
      rcases d3 with ⟨d4, d5⟩ | ⟨d4, d5, d6⟩
      · exact hr.cg (fun i k i1 i2 => by rw [e i i1 i2]) (fun i k i1 i2 => by rw [d5 i i1])
      · exact hr.other (by omega) e d6
    rcases d3 with ⟨d4, d5⟩ | ⟨d4, d5, d6⟩
    · rw [h1 (by omega)]
      exact ⟨⟨⟨a5.1.1, old _ 0 a5.1.1 t2 a5.1.2 (Or.inl d4)⟩, fun k hk => ⟨(a5.2 k hk).1, old _ _ (a5.2 k hk).1 (t3 k hk).1 (a5.2 k hk).2 (Or.inl d4)⟩⟩, t1, t2, t3, t4⟩
    · obtain ⟨r1, r2, r3⟩ := h2 d4.1
      have new : RTz (R 72 1) x (up2 U 58 1 0) X := d5.cg (fun i k i1 i2 => by rw [up2_c _ _ (by omega)]) (fun _ _ _ _ => rfl)
      by_cases gx : x = 0
      · subst gx
        rw [if_pos rfl] at r1 r2
        have r3 : ∀ k : Nat, k < 4 → R2 66 k = R 66 k := fun k hk => by rw [r3 k hk, if_neg (by omega)]
        refine ⟨⟨⟨by rw [r2]; exact t1, by rw [r2]; exact new⟩, fun k hk => ⟨by rw [r3 k hk]; exact (a5.2 k hk).1, by rw [r3 k hk]; exact old _ _ (a5.2 k hk).1 (t3 k hk).1 (a5.2 k hk).2 (Or.inr (by omega))⟩⟩, by rw [r1]; exact a5.1.1, by rw [r1, r2]; exact fun e => t2 e.symm, fun k hk => ?_, fun j k hj hk hjk => ?_⟩
        · rw [r1, r2, r3 k hk]
          exact ⟨(t3 k hk).2, (t3 k hk).1⟩
        · rw [r3 j hj, r3 k hk]
          exact t4 j k hj hk hjk
      · rw [if_neg gx] at r1 r2
        obtain ⟨y, rfl⟩ : ∃ y : Nat, x = y + 1 := ⟨x - 1, by omega⟩
        rw [Nat.add_sub_cancel] at r1
        have ry : R2 66 y = R 72 1 := by rw [r3 y (by omega), if_pos rfl]
        have ro : ∀ k : Nat, k < 4 → k ≠ y → R2 66 k = R 66 k := fun k hk hky => by rw [r3 k hk, if_neg (by omega)]
        have hy := a5.2 y (by omega)
        have hty := t3 y (by omega)
        refine ⟨⟨⟨by rw [r2]; exact a5.1.1, by rw [r2]; exact old _ _ a5.1.1 t2 a5.1.2 (Or.inr (by omega))⟩, fun k hk => ?_⟩, by rw [r1]; exact hy.1, by rw [r1, r2]; exact fun e => hty.2 e.symm, fun k hk => ?_, fun j k hj hk hjk => ?_⟩
        · by_cases e : k = y
          · rw [e, ry]; exact ⟨t1, new⟩
          · rw [ro k hk e]
            exact ⟨(a5.2 k hk).1, old _ _ (a5.2 k hk).1 (t3 k hk).1 (a5.2 k hk).2 (Or.inr (by omega))⟩
        · rw [r1, r2]
          by_cases e : k = y
          · rw [e, ry]
            exact ⟨fun e2 => hty.1 e2.symm, fun e2 => t2 e2.symm⟩
          · rw [ro k hk e]
            exact ⟨t4 k y hk (by omega) e, (t3 k hk).2⟩
        · by_cases e : j = y
          · rw [e, ry, ro k hk (by omega)]
            exact fun e2 => (t3 k hk).1 e2.symm
          · rw [ro j hj e]
            by_cases e2 : k = y
            · rw [e2, ry]
              exact (t3 j hj).1
            · rw [ro k hk e2]
              exact t4 j k hj hk hjk
  · refine ⟨by rw [up2_s, d2], by rw [d2]; decide, fun k hk => by rw [d2] at hk; omega⟩
/-- reading keeps all but its own rows -/
theorem FBm.fl {m : Nat} {W X : Nat → Nat → Int} (h : FBm m W X) (k : Nat) (hk : m.testBit k = false) : X 0 k = W 0 k := h 0 k hk
theorem FBm.rw {m : Nat} {W X : Nat → Nat → Int} (h : FBm m W X) (i : Nat) (hi : i ≠ 0) (hk : m.testBit (64 + i) = false) : X i = W i := h.row fun k => by rw [mkey_r hi]; exact hk
theorem w_law {x a b : Int} {V V2 J J2 W Jm X : Nat → Nat → Int} {R R2 Rm : Nat → Nat → Nat} (h : WR R V W) (hx : f_s_law x V J R (a, (V2, J2, R2))) (hm : f_m_law x W Jm Rm (b, X)) : a = b ∧ WR R2 V2 X := by
  unfold f_m_law at hm
  obtain ⟨y, Y, hY, hF, hm⟩ := hm
  simp only [rtn, Prod.mk.injEq] at hm
  obtain ⟨rfl, rfl⟩ := hm
  unfold f_s_law at hx
  obtain ⟨z1, h1, -, hx⟩ := hx
  have h1 := q_sWithin h1
  have htp := h.2.2.2.2.1
  by_cases g1 : z1 = 0
  · rw [if_pos g1] at hx
    simp only [rtn, Prod.mk.injEq] at hx
    obtain ⟨rfl, rfl, rfl, rfl⟩ := hx
    have := h1.off g1
    obtain ⟨m1, m2⟩ := q_mReads0 hY (by omega)
    subst m2
    exact ⟨m1.symm, h⟩
  · rw [if_neg g1] at hx
    have g2 := h1.on g1
    obtain ⟨z4, e4, -, hx⟩ := rdb_g hx
    by_cases g3 : x ≤ z4
    · rw [if_pos g3] at hx
      obtain ⟨z6, V6, J6, R6, h6, hF6, hx⟩ := hx
      obtain ⟨V7, e7, hx⟩ := rdb_g hx
      simp only [rtn, Prod.mk.injEq] at hx
      obtain ⟨rfl, rfl, rfl, rfl⟩ := hx
      unfold f_b_writeLaw at h6
      obtain ⟨z8, V8, h8, -, h6⟩ := h6
      have hD : RDD (R 72 1) 0 z8 b W V8 X := q_read (x := 0) (Or.inl ⟨rfl, rfl⟩) h.2.2.2.1.2.1 rfl h.2.2.2.2 g2 (by omega) h8 hY
      by_cases g4 : z8 ≤ 0
      · rw [if_pos g4] at h6
        simp only [rtn, Prod.mk.injEq] at h6
        obtain ⟨rfl, rfl, rfl, rfl⟩ := h6
        rw [← e7]
        exact h.text (by decide) hD (fun i i1 i2 => funext fun k => hF6 i k (by omega)) (hF.rw 1 (by decide) (by decide)) (hF.rw 3 (by decide) (by decide)) (hF.fl 53 (by decide)) (fun _ => rfl) (fun g => by omega)
      · rw [if_neg g4] at h6
        obtain ⟨t3, et3, h6⟩ := rdb_g h6
        obtain ⟨z9, V9, J9, R9, h9, hF9, h6⟩ := h6
        obtain ⟨R10, e10, h6⟩ := rdb_g h6
        simp only [rtn, Prod.mk.injEq] at h6
        obtain ⟨rfl, rfl, rfl, rfl⟩ := h6
        unfold f_r_swap at h9
        obtain ⟨t1, et1, h9⟩ := rdb_g h9
        obtain ⟨R11, e11, h9⟩ := rdb_g h9
        simp only [rtn, Prod.mk.injEq] at h9
        obtain ⟨rfl, rfl, rfl, rfl⟩ := h9
        rw [← e7]
        refine h.text (by decide) hD (fun i i1 i2 => funext fun k => hF6 i k (by omega)) (hF.rw 1 (by decide) (by decide)) (hF.rw 3 (by decide) (by decide)) (hF.fl 53 (by decide)) (fun g => absurd g g4) (fun _ => ⟨?_, ?_, fun k hk => ?_⟩)
        · rw [← e10, up2_n _ _ (Or.inl (by decide)), ← e11, up2_s, if_pos rfl, et3]
        · rw [← e10, up2_s, if_pos rfl, et1]
        · rw [← e10, up2_n _ _ (Or.inl (by decide)), ← e11, up2_n _ _ (Or.inl (by decide)), if_neg (by omega)]
    · rw [if_neg g3] at hx
      simp only [rtn, Prod.mk.injEq] at hx
      obtain ⟨rfl, rfl, rfl, rfl⟩ := hx
      obtain ⟨m1, m2⟩ := q_mReads0 hY (by omega)
      subst m2
      exact ⟨m1.symm, h⟩
theorem w_rule {c x a b : Int} {V V2 J J2 W Jm X : Nat → Nat → Int} {R R2 Rm : Nat → Nat → Nat} (h : WR R V W) (hx : f_s_rule c x V J R (a, (V2, J2, R2))) (hm : f_m_rule c x W Jm Rm (b, X)) : a = b ∧ WR R2 V2 X := by
  unfold f_m_rule at hm
  obtain ⟨y0, hy0, -, hm⟩ := hm
  have hy0 := q_mIn hy0
  unfold f_s_rule at hx
  obtain ⟨z0, hz0, -, hx⟩ := hx
  have hz0 := q_sPlace hz0
  by_cases g0 : z0 = 0
  · have := hz0.off g0
    have e0 : y0 = 0 := by
      rcases hy0 with ⟨-, k⟩ | ⟨k, -⟩
      · omega
      · exact k
    rw [if_pos g0] at hx
    rw [if_pos e0] at hm
    simp only [rtn, Prod.mk.injEq] at hx hm
    obtain ⟨rfl, rfl, rfl, rfl⟩ := hx
    obtain ⟨rfl, rfl⟩ := hm
    exact ⟨rfl, h⟩
  have gc := hz0.on g0
  rw [if_neg g0] at hx
  rw [if_neg (fun hh => by have := hy0.off hh; omega)] at hm
  obtain ⟨y, Y, hY, hF, hm⟩ := hm
  simp only [rtn, Prod.mk.injEq] at hm
  obtain ⟨rfl, rfl⟩ := hm
  obtain ⟨z1, h1, -, hx⟩ := hx
  have h1 := q_sWithin h1
  have htp := h.2.2.2.2.1
  by_cases g1 : z1 = 0
  · rw [if_pos g1] at hx
    simp only [rtn, Prod.mk.injEq] at hx
    obtain ⟨rfl, rfl, rfl, rfl⟩ := hx
    have := h1.off g1
    obtain ⟨m1, m2⟩ := q_mReads0 hY (by omega)
    subst m2
    exact ⟨m1.symm, h⟩
  · rw [if_neg g1] at hx
    have g2 := h1.on g1
    obtain ⟨z4, e4, -, hx⟩ := rdb_g hx
    by_cases g3 : x ≤ z4
    · rw [if_pos g3] at hx
      obtain ⟨z6, V6, J6, R6, h6, hF6, hx⟩ := hx
      obtain ⟨V7, e7, hx⟩ := rdb_g hx
      simp only [rtn, Prod.mk.injEq] at hx
      obtain ⟨rfl, rfl, rfl, rfl⟩ := hx
      unfold f_b_writeRule at h6
      obtain ⟨z8, V8, h8, -, h6⟩ := h6
      have ec : c + 1 = ((c.toNat + 1 : Nat) : Int) := by omega
      rw [ec] at hY
      have hD : RDD (R 72 1) (c.toNat + 1) z8 b W V8 X := q_read (x := c.toNat + 1) (Or.inr ⟨rfl, by omega⟩) h.2.2.2.1.2.1 rfl h.2.2.2.2 g2 (by omega) h8 hY
      by_cases g4 : z8 ≤ 0
      · rw [if_pos g4] at h6
        simp only [rtn, Prod.mk.injEq] at h6
        obtain ⟨rfl, rfl, rfl, rfl⟩ := h6
        rw [← e7]
        exact h.text (by omega) hD (fun i i1 i2 => funext fun k => hF6 i k (by omega)) (hF.rw 1 (by decide) (by decide)) (hF.rw 3 (by decide) (by decide)) (hF.fl 53 (by decide)) (fun _ => rfl) (fun g => by omega)
      · rw [if_neg g4] at h6
        obtain ⟨t3, et3, h6⟩ := rdb_g h6
        obtain ⟨z9, V9, J9, R9, h9, hF9, h6⟩ := h6
        obtain ⟨R10, e10, h6⟩ := rdb_g h6
        simp only [rtn, Prod.mk.injEq] at h6
        obtain ⟨rfl, rfl, rfl, rfl⟩ := h6
        unfold f_r_swap at h9
        obtain ⟨t1, et1, h9⟩ := rdb_g h9
        obtain ⟨R11, e11, h9⟩ := rdb_g h9
        simp only [rtn, Prod.mk.injEq] at h9
        obtain ⟨rfl, rfl, rfl, rfl⟩ := h9
        rw [← e7]
        refine h.text (by omega) hD (fun i i1 i2 => funext fun k => hF6 i k (by omega)) (hF.rw 1 (by decide) (by decide)) (hF.rw 3 (by decide) (by decide)) (hF.fl 53 (by decide)) (fun g => absurd g g4) (fun _ => ⟨?_, ?_, fun k hk => ?_⟩)
        · rw [← e10, up2_n _ _ (Or.inl (by decide)), ← e11, up2_s, if_neg (by omega), Nat.add_sub_cancel, et3]
        · rw [← e10, up2_n _ _ (Or.inl (by decide)), ← e11, up2_n _ _ (Or.inl (by decide)), if_neg (by omega)]
        · rw [← e10]
          by_cases e : k = c.toNat
          · rw [e, up2_s, if_pos rfl, et1]
          · rw [up2_n _ _ (Or.inr e), ← e11, up2_n _ _ (Or.inl (by decide)), if_neg (by omega)]
    · rw [if_neg g3] at hx
      simp only [rtn, Prod.mk.injEq] at hx
      obtain ⟨rfl, rfl, rfl, rfl⟩ := hx
      obtain ⟨m1, m2⟩ := q_mReads0 hY (by omega)
      subst m2
      exact ⟨m1.symm, h⟩
