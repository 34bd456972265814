-- reading: numbers, factors; how the sum goes on (own work)
theorem q_rDigit {c r : Int} (h : f_r_isDigit c r) : Sq r (48 ≤ c ∧ c ≤ 57) := by
  simp only [f_r_isDigit, rtn, if_r] at h
  unfold Sq
  omega
theorem q_mDigit {r : Int} {W J : Nat → Nat → Int} {R : Nat → Nat → Nat} (h : f_m_isDigit W J R r) : Sq r (48 ≤ sgnZ W ∧ sgnZ W ≤ 57) := by
  simp only [f_m_isDigit, rdb] at h
  obtain ⟨z, hz, -, -, -, h⟩ := h
  have hz := q_here hz
  unfold Sq
  by_cases g : z < 48
  · rw [if_pos g] at h
    have h : r = 0 := h
    omega
  · rw [if_neg g] at h
    obtain ⟨y, hy, -, h⟩ := h
    have hy := q_here hy
    by_cases g2 : 57 < y
    · rw [if_pos g2] at h
      have h : r = 0 := h
      omega
    · rw [if_neg g2] at h
      have h : r = 1 := h
      omega
theorem q_opens {x b : Int} {W J X : Nat → Nat → Int} {R : Nat → Nat → Nat} (h : f_m_opens x W J R (b, X)) (ho : 0 ≤ W 0 9 ∧ W 0 9 ≤ 6) : (W 0 9 = 6 ∧ b = 0 ∧ X = up2 W 0 7 (-5000 - W 0 5)) ∨ (¬ W 0 9 = 6 ∧ b = 1 ∧ X = up2 (up2 (up2 (up2 W 0 9 (W 0 9 + 1)) 6 (W 0 11).toNat (1048576 * x)) 0 11 (W 0 11 + 1)) 0 5 (W 0 5 + 1)) := by
  simp only [f_m_opens, rdb] at h
  obtain ⟨hp, -, -, h⟩ := h
  by_cases g : W 0 9 = 6
  · rw [if_neg (fun hh => hh g)] at h
    obtain ⟨y, Y, hy, -, -, h⟩ := h
    simp only [rtn, Prod.mk.injEq] at h
    obtain ⟨k1, k2⟩ := q_wrong hy (by decide) hp
    refine Or.inl ⟨g, h.1.trans k1, ?_⟩
    rw [h.2, k2]
    congr 1
  · rw [if_pos g, wr_id ⟨by omega, by omega⟩] at h
    simp only [rtn, Prod.mk.injEq] at h
    exact Or.inr ⟨g, h.1, h.2⟩
theorem q_hasOpen {z r : Int} {W J : Nat → Nat → Int} {R : Nat → Nat → Nat} (h : f_m_hasOpenSum z W J R r) (hz : 0 ≤ z) : (r = 1 ∧ ∃ j : Nat, z ≤ j ∧ (j : Int) < W 0 11 ∧ iDiv (W 6 j) 1048576 = 14) ∨ (r = 0 ∧ ∀ j : Nat, z ≤ j → (j : Int) < W 0 11 → ¬ iDiv (W 6 j) 1048576 = 14) := by
  simp only [f_m_hasOpenSum, rdb] at h
  obtain ⟨b, hb, h⟩ := lop1_g h
  have key : ∀ (n : Nat) (i : Int), z ≤ i → (∀ j : Nat, z ≤ j → (j : Int) < i → (j : Int) < W 0 11 → ¬ iDiv (W 6 j) 1048576 = 14) → lop1 n b i r → (r = 1 ∧ ∃ j : Nat, z ≤ j ∧ (j : Int) < W 0 11 ∧ iDiv (W 6 j) 1048576 = 14) ∨ (r = 0 ∧ ∀ j : Nat, z ≤ j → (j : Int) < W 0 11 → ¬ iDiv (W 6 j) 1048576 = 14) := by
    intro n
    induction n with
    | zero => intro i _ _ h; exact False.elim h
    | succ n ih =>
      intro i hi hn h
      rw [lop1_s hb] at h
      obtain ⟨-, h⟩ := h
      by_cases g : W 0 11 ≤ i
      · rw [if_pos g] at h
        exact Or.inr ⟨h, fun j h1 h2 => hn j h1 (by omega) h2⟩
      · rw [if_neg g] at h
        by_cases g2 : iDiv (W 6 i.toNat) 1048576 = 14
        · rw [if_neg (fun hh => hh g2)] at h
          exact Or.inl ⟨h, i.toNat, by omega, by omega, g2⟩
        · rw [if_pos g2] at h
          refine ih (i + 1) (by omega) (fun j h1 h2 h3 => ?_) h
          by_cases e : (j : Int) = i
          · rw [show j = i.toNat by omega]; exact g2
          · exact hn j h1 (by omega) h3
  exact key _ z (Int.le_refl _) (fun j h1 h2 => by omega) h
/-- the same fault -/
def FLT (u x : Int) : Prop := u = x ∧ u < 0
/-- a number, on both sides: the same digits, then the first side has put it -/
theorem q_number {t : Nat} {a c : Int} {V W J Jm U X : Nat → Nat → Int} {R Rm : Nat → Nat → Nat} (hP : PP V W) (ht : R 72 1 = t) (h72 : t ≠ 72 ∧ t + 1 ≠ 72) (hl : 0 ≤ V t 1 ∧ V t 1 < 200)
    (hx : f_r_number V J R (a, U)) (hm : f_m_readsNumber W Jm Rm (c, X)) :
    (a = 1 ∧ c = 1 ∧ (∃ (w p : Int) (V2 : Nat → Nat → Int), (0 ≤ w ∧ w < 100000) ∧ (W 0 5 ≤ p ∧ p ≤ W 0 6) ∧ ((48 ≤ sgnZ W ∧ sgnZ W ≤ 57) → W 0 5 < p) ∧ U = up2 (up2 V2 (t + 1) (V t 1).toNat (0 + 16 * w)) t 1 (V t 1 + 1) ∧ V2 72 2 = p ∧ (∀ k : Nat, k ≠ 2 → V2 72 k = V 72 k) ∧ (∀ i : Nat, i ≠ 72 → V2 i = V i) ∧ X 0 8 = w ∧ X 0 5 = p ∧ (∀ k : Nat, k ≠ 5 → k ≠ 8 → X 0 k = W 0 k) ∧ ∀ i : Nat, i ≠ 0 → X i = W i)) ∨
    (a = 0 ∧ c = 0 ∧ FLT (U 72 5) (X 0 7)) := by
  unfold f_r_number at hx
  obtain ⟨z1, -, hx⟩ := rdb_g hx
  unfold f_m_readsNumber at hm
  obtain ⟨s0, es0, -, hm⟩ := rdb_g hm
  obtain ⟨e0, -, -, hm⟩ := rdb_g hm
  obtain ⟨W3, eW3, hm⟩ := rdb_g hm
  obtain ⟨bX, hbX, hx⟩ := lop3_g hx
  obtain ⟨bM, hbM, hm⟩ := lop1_g hm
  obtain ⟨P1, P2, P3, P4⟩ := hP
  have key : ∀ (n m i : Nat) (w : Int) (V1 W1 : Nat → Nat → Int), i ≤ 5 → (0 ≤ w ∧ w < 10 ^ i) → W 0 5 + i ≤ W 0 6 → (V1 72 2 = W 0 5 + i ∧ (∀ k : Nat, k ≠ 2 → V1 72 k = V 72 k) ∧ ∀ q : Nat, q ≠ 72 → V1 q = V q) → (W1 0 8 = w ∧ W1 0 5 = W 0 5 + i ∧ (∀ k : Nat, k ≠ 5 → k ≠ 8 → W1 0 k = W 0 k) ∧ ∀ q : Nat, q ≠ 0 → W1 q = W q) →
      (i = 0 ∨ W 0 5 < W 0 5 + i) → lop3 n bX (i : Int) w V1 (a, U) → lop1 m bM W1 (c, X) →
      (a = 1 ∧ c = 1 ∧ (∃ (w p : Int) (V2 : Nat → Nat → Int), (0 ≤ w ∧ w < 100000) ∧ (W 0 5 ≤ p ∧ p ≤ W 0 6) ∧ ((48 ≤ sgnZ W ∧ sgnZ W ≤ 57) → W 0 5 < p) ∧ U = up2 (up2 V2 (t + 1) (V t 1).toNat (0 + 16 * w)) t 1 (V t 1 + 1) ∧ V2 72 2 = p ∧ (∀ k : Nat, k ≠ 2 → V2 72 k = V 72 k) ∧ (∀ i : Nat, i ≠ 72 → V2 i = V i) ∧ X 0 8 = w ∧ X 0 5 = p ∧ (∀ k : Nat, k ≠ 5 → k ≠ 8 → X 0 k = W 0 k) ∧ ∀ i : Nat, i ≠ 0 → X i = W i)) ∨ (a = 0 ∧ c = 0 ∧ FLT (U 72 5) (X 0 7)) := by
    intro n
    induction n with
    | zero => intro m i w V1 W1 _ _ _ _ _ _ hx; exact False.elim hx
    | succ n ih =>
      intro m i w V1 W1 hi hw hpi hV hW hi0 hx hm
      cases m with
      | zero => exact False.elim hm
      | succ m =>
        rw [lop3_s hbX] at hx
        rw [lop1_s hbM] at hm
        obtain ⟨v1, v2, v3⟩ := hV
        obtain ⟨w1, w2, w3, w4⟩ := hW
        have PP1 : PP V1 W1 := by
          refine ⟨by omega, ?_, ?_, fun k hk => ?_⟩
          · rw [v2 3 (by decide), w3 6 (by decide) (by decide)]; exact P2
          · rw [w3 6 (by decide) (by decide), v3 58 (by decide)]; omega
          · rw [w3 6 (by decide) (by decide)] at hk
            rw [v3 59 (by decide), w4 4 (by decide)]; exact P4 k hk
        have p10 : (10 : Int) ^ i ≤ 100000 := by
          have e : ∀ q : Nat, q < 6 → (10 : Int) ^ q ≤ 100000 := by decide
          exact e i (by omega)
        have hx := jnk_d hx
        obtain ⟨y5, e5, -, hm⟩ := rdb_g hm
        obtain ⟨y6, e6, -, hm⟩ := rdb_g hm
        obtain ⟨y8, e8, hm⟩ := rdb_g hm
        obtain ⟨zd, hzd, -, hm⟩ := hm
        have hzd := q_mDigit hzd
        -- the first side asks at its end
        have stop : (∀ (K : Int × (Nat → Nat → Int) → Prop), True) → calR (f_r_peek V1 J R) (fun z203 => calR (f_r_isDigit z203) fun z204 => fct (0 ≤ z204 ∧ z204 ≤ 1) <| (if z204 = 0 then rdb (R 72 1) fun t206 => calUX (fun i k : Nat => (t206 ≤ i ∧ i ≤ t206 + 4)) V1 (f_r_put t206 0 w V1 J R) fun V207 => rtn (1, V207) else calVX (fun i k : Nat => (72 ≤ i ∧ i ≤ 72)) V1 (f_r_fail 2 V1 J R) fun z208 V208 => fct (0 ≤ z208 ∧ z208 ≤ 0) <| rtn (z208, V208))) (a, U) →
            ((¬ (48 ≤ sgnZ W1 ∧ sgnZ W1 ≤ 57)) ∧ a = 1 ∧ U = up2 (up2 V1 (t + 1) (V t 1).toNat (0 + 16 * w)) t 1 (V t 1 + 1)) ∨ ((48 ≤ sgnZ W1 ∧ sgnZ W1 ≤ 57) ∧ a = 0 ∧ U 72 5 = -2000 - W1 0 5) := fun _ hx => by
          obtain ⟨s, hs, hx⟩ := hx
          have hs := q_peek PP1 hs
          subst hs
          obtain ⟨d, hd, -, hx⟩ := hx
          have hd := q_rDigit hd
          by_cases g : d = 0
          · rw [if_pos g] at hx
            obtain ⟨t2, et2, hx⟩ := rdb_g hx
            rw [ht] at et2
            subst et2
            obtain ⟨Y, hy, -, hx⟩ := hx
            simp only [rtn, Prod.mk.injEq] at hx
            have e1 : V1 t = V t := v3 t h72.1
            have := q_put hy (by decide) (by omega) (by rw [e1]; exact hl)
            rw [e1] at this
            exact Or.inl ⟨hd.off g, hx.1, by rw [hx.2]; exact this⟩
          · rw [if_neg g] at hx
            obtain ⟨y, Y, hy, -, -, hx⟩ := hx
            simp only [rtn, Prod.mk.injEq] at hx
            obtain ⟨k1, k2⟩ := q_fail hy (by decide) (by omega)
            refine Or.inr ⟨hd.on g, by omega, ?_⟩
            rw [hx.2, k2, up2_s]
            omega
        have yes : (¬ (48 ≤ sgnZ W1 ∧ sgnZ W1 ≤ 57)) → a = 1 → U = up2 (up2 V1 (t + 1) (V t 1).toNat (0 + 16 * w)) t 1 (V t 1 + 1) → (c = 1 ∧ X = W1) → (a = 1 ∧ c = 1 ∧ (∃ (w p : Int) (V2 : Nat → Nat → Int), (0 ≤ w ∧ w < 100000) ∧ (W 0 5 ≤ p ∧ p ≤ W 0 6) ∧ ((48 ≤ sgnZ W ∧ sgnZ W ≤ 57) → W 0 5 < p) ∧ U = up2 (up2 V2 (t + 1) (V t 1).toNat (0 + 16 * w)) t 1 (V t 1 + 1) ∧ V2 72 2 = p ∧ (∀ k : Nat, k ≠ 2 → V2 72 k = V 72 k) ∧ (∀ i : Nat, i ≠ 72 → V2 i = V i) ∧ X 0 8 = w ∧ X 0 5 = p ∧ (∀ k : Nat, k ≠ 5 → k ≠ 8 → X 0 k = W 0 k) ∧ ∀ i : Nat, i ≠ 0 → X i = W i)) := fun hn ha hU hc => by
          obtain ⟨hc1, hX⟩ := hc
          subst hX
          refine ⟨ha, hc1, w, W 0 5 + i, V1, ⟨hw.1, by omega⟩, ⟨by omega, hpi⟩, fun hd => ?_, hU, v1, v2, v3, w1, w2, w3, w4⟩
          rcases hi0 with h0 | h0
          · subst h0
            have : sgnZ X = sgnZ W := by
              unfold sgnZ
              rw [w2, w3 6 (by decide) (by decide), w4 4 (by decide)]
              simp
            rw [this] at hn
            exact absurd hd hn
          · exact h0
        by_cases g5 : (5 : Int) ≤ i
        · rw [if_pos g5] at hx
          rcases stop (fun _ => trivial) hx with ⟨h1, h2, h3⟩ | ⟨h1, h2, h3⟩
          · have z0 : zd = 0 := by unfold Sq at hzd; omega
            rw [if_pos z0] at hm
            simp only [rtn, Prod.mk.injEq] at hm
            exact Or.inl (yes h1 h2 h3 hm)
          · have z0 : ¬ zd = 0 := by unfold Sq at hzd; omega
            rw [if_neg z0, if_neg (fun hh => hh (by omega))] at hm
            obtain ⟨y, Y, hy, -, -, hm⟩ := hm
            simp only [rtn, Prod.mk.injEq] at hm
            obtain ⟨k1, k2⟩ := q_wrong hy (by decide) (by omega)
            refine Or.inr ⟨h2, by omega, ?_⟩
            rw [h3, hm.2, k2, up2_s]
            exact ⟨by omega, by omega⟩
        · rw [if_neg g5] at hx
          obtain ⟨s, hs, hx⟩ := hx
          have hs := q_peek PP1 hs
          subst hs
          obtain ⟨d, hd, -, hx⟩ := hx
          have hd := q_rDigit hd
          by_cases g : d = 0
          · rw [if_pos g] at hx
            have hnd := hd.off g
            rcases stop (fun _ => trivial) hx with ⟨h1, h2, h3⟩ | ⟨h1, h2, h3⟩
            · have z0 : zd = 0 := by unfold Sq at hzd; omega
              rw [if_pos z0] at hm
              simp only [rtn, Prod.mk.injEq] at hm
              exact Or.inl (yes h1 h2 h3 hm)
            · exact absurd h1 hnd
          · rw [if_neg g] at hx
            have hyd := hd.on g
            have hlt := sgn_lt (W := W1) (by omega)
            have z0 : ¬ zd = 0 := by unfold Sq at hzd; omega
            rw [if_neg z0, if_pos (by omega)] at hm
            obtain ⟨s2, hs2, -, hm⟩ := hm
            have hs2 := q_here hs2
            subst hs2
            obtain ⟨W8, eW8, hm⟩ := rdb_g hm
            obtain ⟨W9, eW9, hm⟩ := rdb_g hm
            obtain ⟨x1, ex1, hx⟩ := rdb_g hx
            obtain ⟨s3, hs3, hx⟩ := hx
            have hs3 := q_peek PP1 hs3
            subst hs3
            obtain ⟨x2, ex2, hx⟩ := rdb_g hx
            obtain ⟨x3, ex3, hx⟩ := rdb_g hx
            obtain ⟨x4, ex4, hx⟩ := rdb_g hx
            obtain ⟨x5, ex5, hx⟩ := rdb_g hx
            obtain ⟨V9, eV9, hx⟩ := rdb_g hx
            rw [wr_id ⟨by omega, by omega⟩] at ex1
            rw [← ex1, wr_id ⟨by omega, by omega⟩] at ex2
            rw [← ex2, wr_id ⟨by omega, by omega⟩] at ex3
            rw [← ex4, v1, wr_id ⟨by omega, by omega⟩] at ex5
            rw [w3 6 (by decide) (by decide), w2] at hlt
            have hpow : (10 : Int) ^ (i + 1) = 10 * 10 ^ i := by rw [Int.pow_succ, Int.mul_comm]
            refine ih m (i + 1) x3 V9 W9 (by omega) ⟨by omega, by rw [hpow]; omega⟩ (by omega) ⟨?_, fun k hk => ?_, fun q hq => ?_⟩ ⟨?_, ?_, fun k k1 k2 => ?_, fun q hq => ?_⟩ (Or.inr (by omega)) (by rw [Int.natCast_add]; exact hx) hm
            · rw [← eV9, up2_s]; omega
            · rw [← eV9, up2_n _ _ (Or.inr hk)]; exact v2 k hk
            · rw [← eV9, up2_c _ _ hq]; exact v3 q hq
            · rw [← eW9, up2_n _ _ (Or.inr (by decide)), ← eW8, up2_s]; omega
            · rw [← eW9, up2_s]; omega
            · rw [← eW9, up2_n _ _ (Or.inr k1), ← eW8, up2_n _ _ (Or.inr k2)]; exact w3 k k1 k2
            · rw [← eW9, up2_c _ _ hq, ← eW8, up2_c _ _ hq]; exact w4 q hq
  refine key _ _ 0 0 V W3 (by decide) (by decide) (by omega) ⟨by omega, fun _ _ => rfl, fun _ _ => rfl⟩ ⟨?_, ?_, fun k k1 k2 => ?_, fun q hq => ?_⟩ (Or.inl rfl) hx hm
  · rw [← eW3, up2_s]
  · rw [← eW3, up2_n _ _ (Or.inr (by decide))]; omega
  · rw [← eW3, up2_n _ _ (Or.inr k2)]
  · rw [← eW3, up2_c _ _ hq]
