-- reading: a clause (own work)
def isK (x c : Int) : Prop := (x ≤ 0 ∧ (c = 101 ∨ c = 104 ∨ c = 99 ∨ c = 98)) ∨ (0 < x ∧ c = 103)
theorem q_isClause {c x r : Int} (h : f_m_isClause c x r) : Sq r (isK x c) := by
  unfold f_m_isClause at h
  unfold Sq isK
  by_cases g : x ≤ 0
  · rw [if_pos g] at h
    by_cases g1 : c = 101
    · rw [if_pos g1] at h; have h : r = 1 := h; omega
    · rw [if_neg g1] at h
      by_cases g2 : c = 104
      · rw [if_pos g2] at h; have h : r = 1 := h; omega
      · rw [if_neg g2] at h
        by_cases g3 : c = 99
        · rw [if_pos g3] at h; have h : r = 1 := h; omega
        · rw [if_neg g3] at h
          by_cases g4 : c = 98
          · rw [if_neg (fun hh => hh g4)] at h; have h : r = 1 := h; omega
          · rw [if_pos g4] at h; have h : r = 0 := h; omega
  · rw [if_neg g] at h
    by_cases g1 : c = 103
    · rw [if_neg (fun hh => hh g1)] at h; have h : r = 1 := h; omega
    · rw [if_pos g1] at h; have h : r = 0 := h; omega
theorem q_kinds {k : Nat} {x c r : Int} (hk : (k = 0 ∧ x = 0) ∨ (k = 2 ∧ 0 < x)) (hc : 0 ≤ c ∧ c ≤ 255) (h : f_j_indexOf k c r) : (0 ≤ r ∧ isK x c) ∨ (r < 0 ∧ ¬ isK x c) := by
  unfold isK
  rcases hk with ⟨rfl, rfl⟩ | ⟨rfl, h0⟩
  · rcases q_indexOf (by decide) hc h with ⟨h1, j, hj, h2⟩ | ⟨h1, h2⟩
    · refine Or.inl ⟨h1, Or.inl ⟨by decide, ?_⟩⟩
      have hj : j < 4 := hj
      rcases (show j = 0 ∨ j = 1 ∨ j = 2 ∨ j = 3 by omega) with rfl | rfl | rfl | rfl <;> subst h2 <;> decide
    · refine Or.inr ⟨by omega, fun hl => ?_⟩
      rcases hl with ⟨-, rfl | rfl | rfl | rfl⟩ | ⟨hl, -⟩
      · exact h2 0 (by decide) (by decide)
      · exact h2 1 (by decide) (by decide)
      · exact h2 2 (by decide) (by decide)
      · exact h2 3 (by decide) (by decide)
      · omega
  · rcases q_indexOf (by decide) hc h with ⟨h1, j, hj, h2⟩ | ⟨h1, h2⟩
    · refine Or.inl ⟨h1, Or.inr ⟨h0, ?_⟩⟩
      have hj : j < 1 := hj
      rcases (show j = 0 by omega) with rfl
      subst h2
      decide
    · refine Or.inr ⟨by omega, fun hl => ?_⟩
      rcases hl with ⟨hl, -⟩ | ⟨-, rfl⟩
      · omega
      · exact h2 0 (by decide) (by decide)
/-- clause j, read on both sides -/
def CLj (t : Nat) (V W : Nat → Nat → Int) (j : Nat) : Prop := V (t + 2) j = W 7 j ∧ V (t + 3) j = W 8 j ∧ V (t + 4) j = W 9 j ∧ V (t + 3) (j + 1) = W 10 j ∧ V (t + 3) (j + 1) ≤ V t 1 ∧ SG (V (t + 1)) (V (t + 3) j) (V (t + 4) j) 15 ∧ CG (V (t + 1)) (V (t + 4) j) (V (t + 3) (j + 1))
/-- n clauses are read on both sides -/
def CL (t : Nat) (V W : Nat → Nat → Int) (n : Nat) : Prop := PP V W ∧ CA t V W [] ∧ V 72 4 = 0 ∧ V t 1 ≤ W 0 5 ∧ V t 5 = n ∧ W 0 12 = n ∧ n ≤ 14 ∧ (n = 0 ∨ V (t + 3) n = V t 1) ∧ ∀ j : Nat, j < n → CLj t V W j
theorem CLj.cg {t j : Nat} {V W U X : Nat → Nat → Int} (h : CLj t V W j) (e2 : U (t + 2) j = V (t + 2) j) (e3 : U (t + 3) j = V (t + 3) j) (e4 : U (t + 4) j = V (t + 4) j) (e5 : U (t + 3) (j + 1) = V (t + 3) (j + 1)) (e1 : ∀ k : Nat, (k : Int) < V t 1 → U (t + 1) k = V (t + 1) k) (el : V t 1 ≤ U t 1) (m7 : X 7 j = W 7 j) (m8 : X 8 j = W 8 j) (m9 : X 9 j = W 9 j) (m10 : X 10 j = W 10 j) : CLj t U X j := by
  obtain ⟨h1, h2, h3, h4, h5, h6, h7⟩ := h
  have l6 := h6.2.1
  have l7 := h7.2.1
  unfold CLj
  rw [e2, e3, e4, e5, m7, m8, m9, m10]
  exact ⟨h1, h2, h3, h4, by omega, h6.cg fun k a b => e1 k (by omega), h7.cg fun k a b => e1 k (by omega)⟩
theorem q_condition {a q : Int} {t : Nat} {s : Int} {V W J Jm U X : Nat → Nat → Int} {R Rm : Nat → Nat → Nat} (ht : isTx t) (hR : R 72 1 = t) (hS : RS1 t 0 s V W []) (h11 : W 0 11 = 0) (h40 : sgnZ W = 40) (hx : f_r_bracket0 41 V J R (a, U)) (hm : f_m_readsCondition W Jm Rm (q, X)) :
    (a = 1 ∧ q = 1 ∧ RS1 t 0 s U X [] ∧ KM 0 W X ∧ KX t V U ∧ W 0 5 < X 0 5 ∧ CR t V U) ∨ (a = 0 ∧ q = 0 ∧ FLT (U 72 5) (X 0 7)) := by
  unfold f_m_readsCondition at hm
  obtain ⟨z1, -, -, hm⟩ := rdb_g hm
  obtain ⟨z2, -, -, hm⟩ := rdb_g hm
  obtain ⟨z3, -, -, hm⟩ := rdb_g hm
  obtain ⟨z4, -, -, hm⟩ := rdb_g hm
  obtain ⟨c, hc, -, hm⟩ := hm
  have hc := q_here hc
  rw [if_pos (by omega)] at hm
  obtain ⟨V7, e7, hm⟩ := rdb_g hm
  obtain ⟨V8, e8, hm⟩ := rdb_g hm
  obtain ⟨y, Y, hy, -, -, hm⟩ := hm
  have h9 := hS.2.2.2.1
  have e78 : V8 = W := by
    rw [← e8, ← e7, up2_same h9, up2_same h11]
  rw [e78] at hy
  rcases q_opens hy (by omega) with ⟨k1, -⟩ | ⟨-, k2, k3⟩
  · omega
  · rw [if_pos (by omega), k3] at hm
    have hRC : RCz Jm Rm (opnd W 13) (q, X) := ⟨_, hm⟩
    rcases brc0 t s a V W J Jm U R Rm (q, X) ht hR hS (by omega) h40 hx hRC with ⟨f1, Z, f2, -, f4, f5, f6, f7, f8, f9⟩ | ⟨f1, Z, f2, f3⟩
    · have e := f2 h11
      simp only [Prod.mk.injEq] at e
      obtain ⟨e1, e2⟩ := e
      subst e2
      exact Or.inl ⟨f1, e1, f4, by rw [← h11]; exact f6, f7, f8, f9⟩
    · simp only [Prod.mk.injEq] at f2
      exact Or.inr ⟨f1, f2.1, by rw [f2.2]; exact f3⟩
theorem q_clause {k1 t n : Nat} {x1 a q : Int} {V W J Jm U X : Nat → Nat → Int} {R Rm : Nat → Nat → Nat} (hk : (k1 = 0 ∧ x1 = 0) ∨ (k1 = 2 ∧ 0 < x1)) (ht : isTx t) (hR : R 72 1 = t) (hC : CL t V W n) (hx : f_r_clause k1 V J R (a, U)) (hm : f_m_readsClause x1 W Jm Rm (q, X)) :
    (a = 1 ∧ q = 1 ∧ n < 14 ∧ CL t U X (n + 1) ∧ W 0 5 < X 0 5 ∧ X 0 6 = W 0 6 ∧ X 0 4 = W 0 4 ∧ (∀ i : Nat, 11 ≤ i → X i = W i) ∧ X 4 = W 4) ∨ (a = 0 ∧ q = 0 ∧ FLT (U 72 5) (X 0 7)) := by
  have tn := tx_ne ht
  obtain ⟨c1, c2, c3, c4, c5, c6, c7, c8, c9⟩ := hC
  have cp := c1.2.2.1
  have cl : V t 1 = W 0 10 := by have := c2.2.1; simpa using this
  have cl0 := c2.1
  have sr := sgn_r W
  unfold f_r_clause at hx
  unfold f_m_readsClause at hm
  obtain ⟨y1, ey1, -, hm⟩ := rdb_g hm
  obtain ⟨y2, -, -, hm⟩ := rdb_g hm
  obtain ⟨y3, ey3, -, hm⟩ := rdb_g hm
  obtain ⟨y4, ey4, -, hm⟩ := rdb_g hm
  obtain ⟨y5, hy5, -, hm⟩ := hm
  have hy5 := q_here hy5
  subst hy5
  obtain ⟨y6, hy6, -, hm⟩ := hm
  have hy6 := q_isClause hy6
  obtain ⟨z1, hz1, hx⟩ := hx
  have hz1 := q_peek c1 hz1
  subst hz1
  have wrong : ∀ (f : Int) (Y : Nat → Nat → Int) (z : Int), (0 ≤ f ∧ f ≤ 9) → f_m_wrongAt f y1 W Jm Rm (z, Y) → (q, X) = (z, Y) → q = 0 ∧ X 0 7 = -1000 * f - W 0 5 := fun f Y z hf h e => by
    simp only [Prod.mk.injEq] at e
    obtain ⟨k3, k4⟩ := q_wrong h hf (by omega)
    exact ⟨e.1.trans k3, by rw [e.2, k4, up2_s, ← ey1]⟩
  have fail : ∀ (f : Int) (Y : Nat → Nat → Int) (z : Int), (0 ≤ f ∧ f ≤ 9) → f_r_fail f V J R (z, Y) → (a, U) = (z, Y) → a = 0 ∧ U 72 5 = -1000 * f - W 0 5 := fun f Y z hf h e => by
    simp only [Prod.mk.injEq] at e
    obtain ⟨k3, k4⟩ := q_fail h hf (by have := c1.1; omega)
    exact ⟨e.1.trans k3, by rw [e.2, k4, up2_s, c1.1]⟩
  by_cases gK : isK x1 (sgnZ W)
  · rw [if_pos (show ¬ y6 = 0 from fun hh => hy6.off hh gK)] at hm
    have hneg : ¬ sgnZ W < 0 := by unfold isK at gK; omega
    rw [if_neg hneg, iC_c ⟨by omega, by omega⟩] at hx
    obtain ⟨z4, ez4, -, hx⟩ := rdb_g hx
    subst ez4
    obtain ⟨z5, hz5, hx⟩ := hx
    rcases q_kinds hk ⟨by omega, by omega⟩ hz5 with ⟨g1, -⟩ | ⟨-, g1⟩
    · rw [if_pos g1] at hx
      obtain ⟨t0, et0, hx⟩ := rdb_g hx
      rw [hR] at et0
      subst et0
      obtain ⟨z8, ez8, -, hx⟩ := rdb_g hx
      have hlt := sgn_lt (W := W) (by omega)
      by_cases g14 : n = 14
      · rw [if_neg (by omega)] at hx
        rw [if_neg (fun hh => hh (by omega))] at hm
        obtain ⟨z, Z, hZ, -, -, hx⟩ := hx
        obtain ⟨y, Y, hY, -, -, hm⟩ := hm
        obtain ⟨w1, w2⟩ := wrong 4 Y y (by decide) hY hm
        obtain ⟨w3, w4⟩ := fail 4 Z z (by decide) hZ hx
        exact Or.inr ⟨w3, w1, by rw [w4, w2]; exact ⟨rfl, by omega⟩⟩
      · rw [if_pos (by omega)] at hx
        rw [if_pos (by omega)] at hm
        obtain ⟨z10, ez10, -, hx⟩ := rdb_g hx
        subst ez10
        obtain ⟨V11, h11, -, hx⟩ := hx
        obtain ⟨z12, ez12, hx⟩ := rdb_g hx
        obtain ⟨z13, ez13, hx⟩ := rdb_g hx
        obtain ⟨V14, eV14, hx⟩ := rdb_g hx
        obtain ⟨z15, V15, h15, -, z15r, hx⟩ := hx
        obtain ⟨W10, eW10, hm⟩ := rdb_g hm
        obtain ⟨W11, eW11, hm⟩ := rdb_g hm
        obtain ⟨W12, eW12, hm⟩ := rdb_g hm
        obtain ⟨W13, eW13, hm⟩ := rdb_g hm
        obtain ⟨W14, eW14, hm⟩ := rdb_g hm
        obtain ⟨y15, W15, hy15, -, y15r, hm⟩ := hm
        -- both begin
        have n8 : z8.toNat = n := by omega
        have n4 : y4.toNat = n := by omega
        have hV11 : V11 = up2 (up2 V (t + 2) n (sgnZ W)) (t + 3) n (V t 1) := by
          unfold f_r_begin at h11
          obtain ⟨b1, -, h11⟩ := rdb_g h11
          obtain ⟨b2, eb2, -, h11⟩ := rdb_g h11
          obtain ⟨b3, eb3, h11⟩ := rdb_g h11
          obtain ⟨b4, eb4, -, h11⟩ := rdb_g h11
          obtain ⟨b5, eb5, h11⟩ := rdb_g h11
          have h11 : V11 = b5 := h11
          have e4 : b4 = V t 1 := by rw [← eb4, ← eb3, up2_n _ _ (Or.inl (by omega))]
          rw [h11, ← eb5, ← eb3, e4, show b2.toNat = n by omega]
        have v72 : V11 72 = V 72 := by rw [hV11, up2_c _ _ (by omega), up2_c _ _ (by omega)]
        rw [← ez12, v72, c1.1, wr_id ⟨by omega, by omega⟩] at ez13
        have hV14 : V14 = up2 V11 72 2 (W 0 5 + 1) := by rw [← eV14, ← ez13]
        have hW14 : W14 = up2 (up2 (up2 (up2 (up2 W 7 n (sgnZ W)) 0 5 (W 0 5 + 1)) 8 n (W 0 10)) 0 9 0) 0 11 0 := by rw [← eW14, ← eW13, ← eW12, ← eW11, ← eW10, n4, ← ey1, ← ey3]
        have w05 : W14 0 5 = W 0 5 + 1 := by rw [hW14, up2_n _ _ (Or.inr (by decide)), up2_n _ _ (Or.inr (by decide)), up2_n _ _ (Or.inl (by decide)), up2_s]
        have w09 : W14 0 9 = 0 := by rw [hW14, up2_n _ _ (Or.inr (by decide)), up2_s]
        have w11 : W14 0 11 = 0 := by rw [hW14, up2_s]
        have w0 : ∀ k : Nat, k ≠ 5 → k ≠ 9 → k ≠ 11 → W14 0 k = W 0 k := fun k k1 k2 k3 => by rw [hW14, up2_n _ _ (Or.inr k3), up2_n _ _ (Or.inr k2), up2_n _ _ (Or.inl (by decide)), up2_n _ _ (Or.inr k1), up2_n _ _ (Or.inl (by decide))]
        have wr : ∀ i : Nat, i ≠ 0 → i ≠ 7 → i ≠ 8 → W14 i = W i := fun i i1 i2 i3 => by rw [hW14, up2_c _ _ i1, up2_c _ _ i1, up2_c _ _ i3, up2_c _ _ i1, up2_c _ _ i2]
        have w7 : ∀ k : Nat, W14 7 k = if k = n then sgnZ W else W 7 k := fun k => by
          rw [hW14, up2_n _ _ (Or.inl (by decide)), up2_n _ _ (Or.inl (by decide)), up2_n _ _ (Or.inl (by decide)), up2_n _ _ (Or.inl (by decide))]
          by_cases e : k = n
          · rw [e, up2_s, if_pos rfl]
          · rw [up2_n _ _ (Or.inr e), if_neg e]
        have w8 : ∀ k : Nat, W14 8 k = if k = n then W 0 10 else W 8 k := fun k => by
          rw [hW14, up2_n _ _ (Or.inl (by decide)), up2_n _ _ (Or.inl (by decide))]
          by_cases e : k = n
          · rw [e, up2_s, if_pos rfl]
          · rw [up2_n _ _ (Or.inr e), if_neg e, up2_n _ _ (Or.inl (by decide)), up2_n _ _ (Or.inl (by decide))]
        have vr : ∀ i : Nat, i ≠ 72 → i ≠ t + 2 → i ≠ t + 3 → V14 i = V i := fun i i1 i2 i3 => by rw [hV14, up2_c _ _ i1, hV11, up2_c _ _ i3, up2_c _ _ i2]
        have v7 : ∀ k : Nat, k ≠ 2 → V14 72 k = V 72 k := fun k k1 => by rw [hV14, up2_n _ _ (Or.inr k1), v72]
        have v2 : ∀ k : Nat, V14 (t + 2) k = if k = n then sgnZ W else V (t + 2) k := fun k => by
          rw [hV14, up2_n _ _ (Or.inl (by rcases ht with rfl | rfl | rfl | rfl | rfl | rfl <;> decide)), hV11, up2_n _ _ (Or.inl (by omega))]
          by_cases e : k = n
          · rw [e, up2_s, if_pos rfl]
          · rw [up2_n _ _ (Or.inr e), if_neg e]
        have v3 : ∀ k : Nat, V14 (t + 3) k = if k = n then V t 1 else V (t + 3) k := fun k => by
          rw [hV14, up2_n _ _ (Or.inl (by rcases ht with rfl | rfl | rfl | rfl | rfl | rfl <;> decide)), hV11]
          by_cases e : k = n
          · rw [e, up2_s, if_pos rfl]
          · rw [up2_n _ _ (Or.inr e), if_neg e, up2_n _ _ (Or.inl (by omega))]
        have vt : V14 t = V t := vr t tn.1.1 (by omega) (by omega)
        have vs : V14 (t + 1) = V (t + 1) := vr _ tn.1.2 (by omega) (by omega)
        have S1 : RS1 t 0 1 V14 W14 [] := by
          refine ⟨c1.to (by rw [hV14, up2_s, w05]) (v7 3 (by decide)) (w0 6 (by decide) (by decide) (by decide)) (by rw [w05]; omega) (vr 58 (by decide) (by omega) (by omega)) (vr 59 (by decide) (by omega) (by omega)) (wr 4 (by decide) (by decide) (by decide)), c2.to (by rw [vt]) vs (w0 10 (by decide) (by decide) (by decide)) (wr 5 (by decide) (by decide) (by decide)), by rw [v7 4 (by decide)]; exact c3, w09, by decide, by rw [vt, w05]; omega⟩
        rcases sums0.all (by decide) ht hR S1 (by omega) (Or.inl w11) h15 hy15 with ⟨f1, f2, f3, f4, f5, f6, f7, f8, f9⟩ | ⟨f1, f2, f3⟩
        · rw [if_pos (by omega)] at hx hm
          obtain ⟨y18, ey18, -, hm⟩ := rdb_g hm
          obtain ⟨W19, eW19, hm⟩ := rdb_g hm
          obtain ⟨y20, W20, hy20, -, y20r, hm⟩ := hm
          obtain ⟨z18, hz18, hx⟩ := hx
          have hz18 := q_peek f3.1 hz18
          subst hz18
          have fp := f3.1.2.2.1
          have fl : V15 t 1 = W15 0 10 := by have := f3.2.1.2.1; simpa using this
          have hW19 : W19 = up2 W15 9 n (W15 0 10) := by rw [← eW19, n4, ← ey18]
          have es19 : sgnZ W19 = sgnZ W15 := by rw [hW19]; exact sgn_eq (up2_n _ _ (Or.inl (by decide))) (up2_n _ _ (Or.inl (by decide))) (up2_c _ _ (by decide))
          by_cases g40 : sgnZ W15 = 40
          · rw [if_pos g40] at hx
            obtain ⟨V20, h20, -, hx⟩ := hx
            obtain ⟨z21, V21, h21, -, z21r, hx⟩ := hx
            have e15t5 : V15 t 5 = n := by rw [f6.2.1 5 (by decide), vt]; exact c5
            have hV20 : V20 = up2 V15 (t + 4) n (V15 t 1) := by
              unfold f_r_beginWhen at h20
              obtain ⟨b1, -, h20⟩ := rdb_g h20
              obtain ⟨b2, eb2, -, h20⟩ := rdb_g h20
              obtain ⟨b3, eb3, -, h20⟩ := rdb_g h20
              obtain ⟨b4, eb4, h20⟩ := rdb_g h20
              have h20 : V20 = b4 := h20
              rw [h20, ← eb4, ← eb3, show b2.toNat = n by omega]
            have t4 : t + 4 ≠ 72 ∧ t + 4 ≠ 58 ∧ t + 4 ≠ 59 := by rcases ht with rfl | rfl | rfl | rfl | rfl | rfl <;> decide
            have S2 : RS1 t 0 1 V20 W19 [] := by
              obtain ⟨u1, u2, u3, u4, u5, u6⟩ := f3
              have e0 : ∀ k : Nat, W19 0 k = W15 0 k := fun k => by rw [hW19, up2_n _ _ (Or.inl (by decide))]
              have ev : ∀ i : Nat, i ≠ t + 4 → V20 i = V15 i := fun i hi => by rw [hV20, up2_c _ _ hi]
              exact ⟨u1.to (by rw [ev 72 t4.1.symm, e0]; exact u1.1) (by rw [ev 72 t4.1.symm]) (e0 6) (by rw [e0]; omega) (ev 58 t4.2.1.symm) (ev 59 t4.2.2.symm) (by rw [hW19, up2_c _ _ (by decide)]), u2.to (by rw [ev t (by omega)]) (ev _ (by omega)) (e0 10) (by rw [hW19, up2_c _ _ (by decide)]), by rw [ev 72 t4.1.symm]; exact u3, by rw [e0]; exact u4, u5, by rw [ev t (by omega), e0]; exact u6⟩
            rcases q_condition ht hR S2 (by rw [hW19, up2_n _ _ (Or.inl (by decide))]; omega) (by rw [es19]; exact g40) h21 hy20 with ⟨g1, g2, g3, g4, g5, g6, g7⟩ | ⟨g1, g2, g3⟩
            · rw [if_pos (by omega)] at hx hm
              obtain ⟨y23, ey23, -, hm⟩ := rdb_g hm
              obtain ⟨W24, eW24, hm⟩ := rdb_g hm
              obtain ⟨W25, eW25, hm⟩ := rdb_g hm
              simp only [rtn, Prod.mk.injEq] at hm
              obtain ⟨V24, h24, -, hx⟩ := hx
              simp only [rtn, Prod.mk.injEq] at hx
              have gp := g3.1.2.2.1
              have gl : V21 t 1 = W20 0 10 := by have := g3.2.1.2.1; simpa using this
              have e21t5 : V21 t 5 = n := by rw [g5.2.1 5 (by decide), hV20, up2_n _ _ (Or.inl (by omega))]; exact e15t5
              have hU : U = up2 (up2 V21 t 5 (n + 1)) (t + 3) (n + 1) (V21 t 1) := by
                unfold f_r_end at h24
                obtain ⟨b1, -, h24⟩ := rdb_g h24
                obtain ⟨b2, eb2, -, h24⟩ := rdb_g h24
                obtain ⟨b3, eb3, h24⟩ := rdb_g h24
                obtain ⟨b4, eb4, -, h24⟩ := rdb_g h24
                obtain ⟨b5, eb5, h24⟩ := rdb_g h24
                have h24 : V24 = b5 := h24
                have e4 : b4 = V21 t 1 := by rw [← eb4, ← eb3, up2_n _ _ (Or.inr (by decide))]
                rw [hx.2, h24, ← eb5, ← eb3, e4, ← eb2, e21t5, show ((n : Int) + 1).toNat = n + 1 by omega]
              have hX : X = up2 (up2 W20 10 n (W20 0 10)) 0 12 (n + 1) := by rw [hm.2, ← eW25, ← eW24, n4, ← ey23, show y4 = (n : Int) by omega]
              have x0 : ∀ k : Nat, k ≠ 12 → X 0 k = W20 0 k := fun k hk => by rw [hX, up2_n _ _ (Or.inr hk), up2_n _ _ (Or.inl (by decide))]
              have xr : ∀ i : Nat, i ≠ 0 → i ≠ 10 → X i = W20 i := fun i i1 i2 => by rw [hX, up2_c _ _ i1, up2_c _ _ i2]
              have m20 : ∀ i : Nat, i ≠ 0 → i ≠ 5 → i ≠ 6 → i ≠ 7 → i ≠ 8 → i ≠ 9 → W20 i = W i := fun i i0 i5 i6 i7 i8 i9 => by
                rw [g4.2.1 i i0 i5 i6, hW19, up2_c _ _ i9, f5.2.1 i i0 i5 i6, wr i i0 i7 i8]
              have k7 : ∀ k : Nat, X 7 k = if k = n then sgnZ W else W 7 k := fun k => by rw [xr 7 (by decide) (by decide), g4.2.1 7 (by decide) (by decide) (by decide), hW19, up2_n _ _ (Or.inl (by decide)), f5.2.1 7 (by decide) (by decide) (by decide), w7]
              have k8 : ∀ k : Nat, X 8 k = if k = n then W 0 10 else W 8 k := fun k => by rw [xr 8 (by decide) (by decide), g4.2.1 8 (by decide) (by decide) (by decide), hW19, up2_n _ _ (Or.inl (by decide)), f5.2.1 8 (by decide) (by decide) (by decide), w8]
              have k9 : ∀ k : Nat, X 9 k = if k = n then V15 t 1 else W 9 k := fun k => by
                rw [xr 9 (by decide) (by decide), g4.2.1 9 (by decide) (by decide) (by decide), hW19]
                by_cases e : k = n
                · rw [e, up2_s, if_pos rfl, fl]
                · rw [up2_n _ _ (Or.inr e), if_neg e, f5.2.1 9 (by decide) (by decide) (by decide), wr 9 (by decide) (by decide) (by decide)]
              have k10 : ∀ k : Nat, X 10 k = if k = n then V21 t 1 else W 10 k := fun k => by
                rw [hX, up2_n _ _ (Or.inl (by decide))]
                by_cases e : k = n
                · rw [e, up2_s, if_pos rfl, gl]
                · rw [up2_n _ _ (Or.inr e), if_neg e, m20 10 (by decide) (by decide) (by decide) (by decide) (by decide) (by decide)]
              have ut : ∀ k : Nat, k ≠ 5 → U t k = V21 t k := fun k hk => by rw [hU, up2_n _ _ (Or.inl (by omega)), up2_n _ _ (Or.inr hk)]
              have uo : ∀ i : Nat, i ≠ t → i ≠ t + 3 → U i = V21 i := fun i i1 i2 => by rw [hU, up2_c _ _ i2, up2_c _ _ i1]
              have u2 : ∀ k : Nat, U (t + 2) k = if k = n then sgnZ W else V (t + 2) k := fun k => by rw [uo _ (by omega) (by omega), g5.1 _ (by rcases ht with rfl | rfl | rfl | rfl | rfl | rfl <;> decide) (by omega) (by omega), hV20, up2_n _ _ (Or.inl (by omega)), f6.1 _ (by rcases ht with rfl | rfl | rfl | rfl | rfl | rfl <;> decide) (by omega) (by omega), v2]
              have u4 : ∀ k : Nat, U (t + 4) k = if k = n then V15 t 1 else V (t + 4) k := fun k => by
                rw [uo _ (by omega) (by omega), g5.1 _ t4.1 (by omega) (by omega), hV20]
                by_cases e : k = n
                · rw [e, up2_s, if_pos rfl]
                · rw [up2_n _ _ (Or.inr e), if_neg e, f6.1 _ t4.1 (by omega) (by omega), vr _ t4.1 (by omega) (by omega)]
              have u3 : ∀ k : Nat, U (t + 3) k = if k = n + 1 then V21 t 1 else if k = n then V t 1 else V (t + 3) k := fun k => by
                rw [hU]
                by_cases e : k = n + 1
                · rw [e, up2_s, if_pos rfl]
                · rw [up2_n _ _ (Or.inr e), if_neg e, up2_n _ _ (Or.inl (by omega)), g5.1 _ (by rcases ht with rfl | rfl | rfl | rfl | rfl | rfl <;> decide) (by omega) (by omega), hV20, up2_n _ _ (Or.inl (by omega)), f6.1 _ (by rcases ht with rfl | rfl | rfl | rfl | rfl | rfl <;> decide) (by omega) (by omega), v3]
              -- the code
              have f9s := f9.2
              have f9p := f9.1
              rw [vt] at f9s f9p
              rw [vs] at f9p
              have g7s := g7.2
              have g7p := g7.1
              have e20t : V20 t = V15 t := by rw [hV20, up2_c _ _ (by omega)]
              have e20s : V20 (t + 1) = V15 (t + 1) := by rw [hV20, up2_c _ _ (by omega)]
              rw [e20t] at g7s g7p
              rw [e20s] at g7p
              have us : U (t + 1) = V21 (t + 1) := uo _ (by omega) (by omega)
              have ul : U t 1 = V21 t 1 := ut 1 (by decide)
              have la := f9s.2.1
              have lb := g7s.2.1
              have la0 := f9s.1
              refine Or.inl ⟨hx.1, hm.1, by omega, ⟨?_, ?_, ?_, ?_, ?_, ?_, by omega, Or.inr ?_, fun j hj => ?_⟩, ?_, ?_, ?_, fun i hi => ?_, ?_⟩
              · obtain ⟨p1, -⟩ := g3
                have u72 : U 72 = V21 72 := uo _ tn.1.1.symm (by rcases ht with rfl | rfl | rfl | rfl | rfl | rfl <;> decide)
                exact p1.to (by rw [u72, x0 5 (by decide)]; exact p1.1) (by rw [u72]) (x0 6 (by decide)) (by rw [x0 5 (by decide)]; omega) (uo 58 tn.2.1.symm (by omega)) (uo 59 tn.2.2.1.symm (by omega)) (xr 4 (by decide) (by decide))
              · exact g3.2.1.to ul us (x0 10 (by decide)) (xr 5 (by decide) (by decide))
              · rw [uo _ tn.1.1.symm (by rcases ht with rfl | rfl | rfl | rfl | rfl | rfl <;> decide)]; exact g3.2.2.1
              · rw [ul, x0 5 (by decide)]; have := g3.2.2.2.2.2; omega
              · rw [hU, up2_n _ _ (Or.inl (by omega)), up2_s]; omega
              · rw [hX, up2_s]; omega
              · rw [u3, if_pos rfl, ul]
              · by_cases e : j = n
                · subst e
                  unfold CLj
                  rw [u2, u3, u3, u4, k7, k8, k9, k10, if_pos rfl, if_pos rfl, if_neg (by omega), if_pos rfl, if_pos rfl, if_pos rfl, if_pos rfl, if_pos rfl, if_pos rfl, us, ul]
                  refine ⟨rfl, cl, rfl, rfl, Int.le_refl _, ?_, g7s⟩
                  exact (f9s.up (by decide)).cg fun k a b => g7p k b
                · refine (c9 j (by omega)).cg (by rw [u2, if_neg e]) (by rw [u3, if_neg (by omega), if_neg e]) (by rw [u4, if_neg e]) ?_ (fun k hk => ?_) (by rw [ul]; omega) (by rw [k7, if_neg e]) (by rw [k8, if_neg e]) (by rw [k9, if_neg e]) (by rw [k10, if_neg e])
                  · rw [u3, if_neg (by omega)]
                    by_cases e2 : j + 1 = n
                    · rw [if_pos e2]
                      rcases c8 with c8 | c8
                      · omega
                      · rw [e2]; exact c8.symm
                    · rw [if_neg e2]
                  · rw [us, g7p k (by omega), f9p k (by omega)]
              · rw [x0 5 (by decide)]
                have e0 : W19 0 5 = W15 0 5 := by rw [hW19, up2_n _ _ (Or.inl (by decide))]
                omega
              · rw [x0 6 (by decide), g4.2.2.1, hW19, up2_n _ _ (Or.inl (by decide)), f5.2.2.1, w0 6 (by decide) (by decide) (by decide)]
              · rw [x0 4 (by decide), g4.2.2.2.2, hW19, up2_n _ _ (Or.inl (by decide)), f5.2.2.2.2, w0 4 (by decide) (by decide) (by decide)]
              · rw [xr i (by omega) (by omega), m20 i (by omega) (by omega) (by omega) (by omega) (by omega) (by omega)]
              · rw [xr 4 (by decide) (by decide), m20 4 (by decide) (by decide) (by decide) (by decide) (by decide) (by decide)]
            · rw [if_neg (fun hh => hh g1)] at hx
              rw [if_neg (fun hh => hh g2)] at hm
              simp only [rtn, Prod.mk.injEq] at hx hm
              exact Or.inr ⟨hx.1, hm.1, by rw [hx.2, hm.2]; exact g3⟩
          · rw [if_neg g40] at hx
            obtain ⟨z, Z, hZ, -, -, hx⟩ := hx
            simp only [rtn, Prod.mk.injEq] at hx
            obtain ⟨k3, k4⟩ := q_fail hZ (by decide) (by have := f3.1.1; omega)
            unfold f_m_readsCondition at hy20
            obtain ⟨b1, eb1, -, hy20⟩ := rdb_g hy20
            obtain ⟨b2, -, -, hy20⟩ := rdb_g hy20
            obtain ⟨b3, -, -, hy20⟩ := rdb_g hy20
            obtain ⟨b4, -, -, hy20⟩ := rdb_g hy20
            obtain ⟨c, hc, -, hy20⟩ := hy20
            have hc := q_here hc
            rw [if_neg (by omega)] at hy20
            obtain ⟨y, Y, hY, -, -, hy20⟩ := hy20
            simp only [rtn, Prod.mk.injEq] at hy20
            have e0 : b1 = W15 0 5 := by rw [← eb1, hW19, up2_n _ _ (Or.inl (by decide))]
            obtain ⟨k5, k6⟩ := q_wrong hY (by decide) (by omega)
            rw [if_neg (fun hh => hh (hy20.1.trans k5))] at hm
            simp only [rtn, Prod.mk.injEq] at hm
            refine Or.inr ⟨hx.1.trans k3, hm.1, ?_⟩
            rw [hx.2, k4, up2_s, hm.2, hy20.2, k6, up2_s, f3.1.1, e0]
            exact ⟨rfl, by omega⟩
        · rw [if_neg (fun hh => hh f1)] at hx
          rw [if_neg (fun hh => hh f2)] at hm
          simp only [rtn, Prod.mk.injEq] at hx hm
          exact Or.inr ⟨hx.1, hm.1, by rw [hx.2, hm.2]; exact f3⟩
    · exact absurd gK g1
  · rw [if_neg (show ¬ ¬ y6 = 0 from fun hh => gK (hy6.on hh))] at hm
    obtain ⟨y, Y, hY, -, -, hm⟩ := hm
    obtain ⟨w1, w2⟩ := wrong 1 Y y (by decide) hY hm
    by_cases gneg : sgnZ W < 0
    · rw [if_pos gneg] at hx
      obtain ⟨z, Z, hZ, -, -, hx⟩ := hx
      obtain ⟨w3, w4⟩ := fail 1 Z z (by decide) hZ hx
      exact Or.inr ⟨w3, w1, by rw [w4, w2]; exact ⟨rfl, by omega⟩⟩
    · rw [if_neg gneg, iC_c ⟨by omega, by omega⟩] at hx
      obtain ⟨z4, ez4, -, hx⟩ := rdb_g hx
      subst ez4
      obtain ⟨z5, hz5, hx⟩ := hx
      rcases q_kinds hk ⟨by omega, by omega⟩ hz5 with ⟨-, g1⟩ | ⟨g1, -⟩
      · exact absurd g1 gK
      · rw [if_neg (by omega)] at hx
        obtain ⟨z, Z, hZ, -, -, hx⟩ := hx
        obtain ⟨w3, w4⟩ := fail 1 Z z (by decide) hZ hx
        exact Or.inr ⟨w3, w1, by rw [w4, w2]; exact ⟨rfl, by omega⟩⟩
