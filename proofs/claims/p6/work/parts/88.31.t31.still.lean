-- what asks leaves the world as it was (own work)
theorem WR.rk {R R2 : Nat → Nat → Nat} {V W : Nat → Nat → Int} (h : WR R V W) (hr : RK R2 R) : WR R2 V W := by
  have h60 := hr 60 (by decide)
  have h66 := hr 66 (by decide)
  have h72 := hr 72 (by decide)
  unfold WR RTx TXD at h ⊢
  rw [h60, h66, h72]
  exact h
theorem TP.nil {U X : Nat → Nat → Int} (h1 : U 58 1 = 0) (h2 : X 0 4 = 0) : TP U X := by
  unfold TP
  rw [h1, h2]
  exact ⟨rfl, by decide, fun k hk => by omega⟩
theorem WR.keepT {R : Nat → Nat → Nat} {V W U X : Nat → Nat → Int} (h : WR R V W) (hT : TP U X) (hx : ∀ i : Nat, (1 ≤ i ∧ i ≤ 38) ∨ (61 ≤ i ∧ i ≤ 65) ∨ (73 ≤ i ∧ i ≤ 97) → U i = V i) (h0 : U 0 3 = V 0 3) (m1 : ∀ k : Nat, k < 81 → X 1 k = W 1 k) (m3 : X 3 = W 3) (mt : ∀ i : Nat, 11 ≤ i → i ≤ 16 → X i = W i) (m053 : X 0 53 = W 0 53) : WR R U X := by
  obtain ⟨⟨a1, a2⟩, a3, a4, ⟨a5, a6⟩, a7⟩ := h
  refine ⟨⟨a1.cg2 (fun i i1 i2 => hx i (by omega)) m1, by rw [m1 79 (by decide)]; exact a2⟩, by rw [h0, m053]; exact a3, ?_, ⟨a5.cg (fun i i1 i2 i3 => hx i (by omega)) mt, a6⟩, hT⟩
  rw [h0, m3]
  rcases a4 with a4 | ⟨a4, a8⟩
  · exact Or.inl a4
  · exact Or.inr ⟨a4.cg2 (fun i i1 i2 => hx i (by omega)) (fun _ _ => rfl), a8⟩
/-- what neither side's tape has lost -/
theorem WR.tp {R : Nat → Nat → Nat} {V W U X : Nat → Nat → Int} (h : WR R V W) (h1 : U 58 1 = V 58 1) (h2 : U 59 = V 59) (h3 : X 0 4 = W 0 4) (h4 : X 4 = W 4) : TP U X := h.2.2.2.2.cg h1 h2 h3 h4
theorem k_laysSpread {x a : Int} {W J X : Nat → Nat → Int} {R : Nat → Nat → Nat} (h : f_m_laysSpread x W J R (a, X)) : ∀ k : Nat, k < 81 → X 1 k = W 1 k := by
  unfold f_m_laysSpread at h
  refine lop2_k (fun _ V => ∀ k : Nat, k < 81 → V 1 k = W 1 k) (fun r : Int × (Nat → Nat → Int) => ∀ k : Nat, k < 81 → r.2 1 k = W 1 k) (fun rc hrc z V hV r h => ?_) _ _ _ (fun _ _ => rfl) _ h
  by_cases g : 4 ≤ z
  · rw [if_pos g] at h
    refine lop3_k (fun _ _ V => ∀ k : Nat, k < 81 → V 1 k = W 1 k) (fun r : Int × (Nat → Nat → Int) => ∀ k : Nat, k < 81 → r.2 1 k = W 1 k) (fun rc1 hrc1 a1 b1 V1 hV1 r h => ?_) _ _ _ _ hV _ h
    by_cases g1 : x < a1
    · rw [if_pos g1] at h
      simp only [rtn] at h
      subst h
      exact hV1
    · rw [if_neg g1] at h
      refine lop3_k (fun _ _ V => ∀ k : Nat, k < 81 → V 1 k = W 1 k) (fun r : Int × (Nat → Nat → Int) => ∀ k : Nat, k < 81 → r.2 1 k = W 1 k) (fun rc2 hrc2 a2 b2 V2 hV2 r h => ?_) _ _ _ _ hV1 _ h
      by_cases g2 : x < a1 + a2
      · rw [if_pos g2] at h
        exact hrc1 _ _ _ hV2 _ h
      · rw [if_neg g2] at h
        refine lop3_k (fun _ _ V => ∀ k : Nat, k < 81 → V 1 k = W 1 k) (fun r : Int × (Nat → Nat → Int) => ∀ k : Nat, k < 81 → r.2 1 k = W 1 k) (fun rc3 hrc3 a3 b3 V3 hV3 r h => ?_) _ _ _ _ hV2 _ h
        by_cases g3 : x < a1 + a2 + a3
        · rw [if_pos g3] at h
          exact hrc2 _ _ _ hV3 _ h
        · rw [if_neg g3] at h
          obtain ⟨V4, e4, h⟩ := rdb_g h
          obtain ⟨V5, e5, h⟩ := rdb_g h
          obtain ⟨V6, e6, h⟩ := rdb_g h
          obtain ⟨V7, e7, h⟩ := rdb_g h
          have hV7 : ∀ k : Nat, k < 81 → V7 1 k = W 1 k := fun k hk => by rw [← e7, up2_c _ _ (by decide), ← e6, up2_c _ _ (by decide), ← e5, up2_c _ _ (by decide), ← e4, up2_c _ _ (by decide)]; exact hV3 k hk
          obtain ⟨y, -, -, h⟩ := h
          have h := jnk_d h
          by_cases gy : y = 0
          · rw [if_pos gy] at h
            exact hrc3 _ _ _ hV7 _ h
          · rw [if_neg gy] at h
            obtain ⟨y2, -, h⟩ := h
            by_cases gy2 : b3 < y2
            · rw [if_pos gy2] at h
              obtain ⟨y3, -, h⟩ := h
              refine lop2_k (fun _ V => ∀ k : Nat, k < 81 → V 1 k = W 1 k) (fun r : Int × (Nat → Nat → Int) => ∀ k : Nat, k < 81 → r.2 1 k = W 1 k) (fun rc4 hrc4 a4 V8 hV8 r h => ?_) _ _ _ hV7 _ h
              by_cases g4 : 4 ≤ a4
              · rw [if_pos g4] at h
                exact hrc3 _ _ _ hV8 _ h
              · rw [if_neg g4] at h
                obtain ⟨_, -, -, h⟩ := rdb_g h
                obtain ⟨V9, e9, h⟩ := rdb_g h
                exact hrc4 _ _ (fun k hk => by rw [← e9, up2_c _ _ (by decide)]; exact hV8 k hk) _ h
            · rw [if_neg gy2] at h
              exact hrc3 _ _ _ hV7 _ h
  · rw [if_neg g] at h
    refine lop2_k (fun _ V => ∀ k : Nat, k < 81 → V 1 k = W 1 k) (fun r : Int × (Nat → Nat → Int) => ∀ k : Nat, k < 81 → r.2 1 k = W 1 k) (fun rc1 hrc1 z1 V1 hV1 r h => ?_) _ _ _ hV _ h
    by_cases g1 : 24 < z1
    · rw [if_pos g1] at h
      exact hrc _ _ hV1 _ h
    · rw [if_neg g1] at h
      obtain ⟨y, -, -, h⟩ := h
      have h := jnk_d h
      by_cases gy : y = 0
      · rw [if_pos gy] at h
        obtain ⟨V9, e9, h⟩ := rdb_g h
        exact hrc1 _ _ (fun k hk => by rw [← e9, up2_c _ _ (by decide)]; exact hV1 k hk) _ h
      · rw [if_neg gy] at h
        obtain ⟨_, -, -, h⟩ := rdb_g h
        obtain ⟨_, -, -, h⟩ := rdb_g h
        obtain ⟨w, U, hU, -, h⟩ := h
        obtain ⟨V9, e9, h⟩ := rdb_g h
        exact hrc1 _ _ (fun k hk => by rw [← e9, up2_c _ _ (by decide), k_lastsWith hU k hk]; exact hV1 k hk) _ h
theorem k_spread {x y a : Int} {W J X : Nat → Nat → Int} {R : Nat → Nat → Nat} (h : f_m_spread x y W J R (a, X)) : ∀ k : Nat, k < 81 → X 1 k = W 1 k := by
  have same : ∀ c : Int, rtn (c, W) (a, X) → ∀ k : Nat, k < 81 → X 1 k = W 1 k := fun c h k _ => by
    simp only [rtn, Prod.mk.injEq] at h
    rw [h.2]
  unfold f_m_spread at h
  obtain ⟨z1, -, -, h⟩ := h
  by_cases g1 : z1 = 0
  · rw [if_pos g1] at h; exact same _ h
  rw [if_neg g1] at h
  by_cases g2 : y = 10
  · rw [if_pos g2] at h
    obtain ⟨_, -, h⟩ := rdb_g h
    obtain ⟨_, -, h⟩ := rdb_g h
    obtain ⟨_, -, h⟩ := rdb_g h
    obtain ⟨z8, -, h⟩ := rdb_g h
    by_cases g3 : ¬ z8 = 0
    · rw [if_pos g3] at h
      obtain ⟨w, U, hU, -, h⟩ := h
      simp only [rtn, Prod.mk.injEq] at h
      obtain ⟨rfl, rfl⟩ := h
      exact k_laysSpread hU
    · rw [if_neg g3] at h; exact same _ h
  · rw [if_neg g2] at h
    obtain ⟨z9, -, -, h⟩ := h
    by_cases g9 : ¬ z9 = 0
    · rw [if_pos g9] at h
      obtain ⟨_, -, h⟩ := rdb_g h
      obtain ⟨_, -, h⟩ := rdb_g h
      obtain ⟨_, -, h⟩ := rdb_g h
      obtain ⟨z8, -, h⟩ := rdb_g h
      by_cases g3 : ¬ z8 = 0
      · rw [if_pos g3] at h
        obtain ⟨w, U, hU, -, h⟩ := h
        obtain ⟨_, -, h⟩ := rdb_g h
        simp only [rtn, Prod.mk.injEq] at h
        obtain ⟨rfl, rfl⟩ := h
        exact k_laysSpread hU
      · rw [if_neg g3] at h; exact same _ h
    · rw [if_neg g9] at h; exact same _ h
theorem k_lasts {x y a : Int} {W J X : Nat → Nat → Int} {R : Nat → Nat → Nat} (h : f_m_lasts x y W J R (a, X)) : ∀ k : Nat, k < 81 → X 1 k = W 1 k := by
  have same : ∀ c : Int, rtn (c, W) (a, X) → ∀ k : Nat, k < 81 → X 1 k = W 1 k := fun c h k _ => by
    simp only [rtn, Prod.mk.injEq] at h
    rw [h.2]
  unfold f_m_lasts at h
  obtain ⟨z1, -, -, h⟩ := h
  by_cases g1 : z1 = 0
  · rw [if_pos g1] at h; exact same _ h
  rw [if_neg g1] at h
  obtain ⟨_, -, -, h⟩ := rdb_g h
  obtain ⟨_, -, -, h⟩ := rdb_g h
  obtain ⟨z6, -, -, h⟩ := h
  by_cases g6 : ¬ z6 = 0
  · rw [if_pos g6] at h
    obtain ⟨w, U, hU, -, h⟩ := h
    simp only [rtn, Prod.mk.injEq] at h
    obtain ⟨rfl, rfl⟩ := h
    exact k_lastsWith hU
  · rw [if_neg g6] at h; exact same _ h
theorem k_needs {x y a : Int} {W J X : Nat → Nat → Int} {R : Nat → Nat → Nat} (h : f_m_needs x y W J R (a, X)) : ∀ k : Nat, k < 81 → X 1 k = W 1 k := by
  have same : ∀ c : Int, rtn (c, W) (a, X) → ∀ k : Nat, k < 81 → X 1 k = W 1 k := fun c h k _ => by
    simp only [rtn, Prod.mk.injEq] at h
    rw [h.2]
  unfold f_m_needs at h
  obtain ⟨z1, -, -, h⟩ := h
  by_cases g1 : z1 = 0
  · rw [if_pos g1] at h; exact same _ h
  rw [if_neg g1] at h
  obtain ⟨_, -, -, h⟩ := rdb_g h
  obtain ⟨_, -, -, h⟩ := rdb_g h
  obtain ⟨z6, -, -, h⟩ := h
  by_cases g6 : ¬ z6 = 0
  · rw [if_pos g6] at h
    refine lop2_k (fun _ V => ∀ k : Nat, k < 81 → V 1 k = W 1 k) (fun r : Int × (Nat → Nat → Int) => ∀ k : Nat, k < 81 → r.2 1 k = W 1 k) (fun rc hrc z V hV r h => ?_) _ _ _ (fun _ _ => rfl) _ h
    by_cases g : 24 < z
    · rw [if_pos g] at h
      simp only [rtn] at h
      subst h
      exact hV
    · rw [if_neg g] at h
      obtain ⟨_, -, -, h⟩ := rdb_g h
      obtain ⟨_, -, -, h⟩ := rdb_g h
      obtain ⟨w, U, hU, -, h⟩ := h
      have hU2 : ∀ k : Nat, k < 81 → U 1 k = W 1 k := fun k hk => by rw [k_lastsWith hU k hk]; exact hV k hk
      by_cases gw : w < y
      · rw [if_pos gw] at h
        exact hrc _ _ hU2 _ h
      · rw [if_neg gw] at h
        simp only [rtn] at h
        subst h
        exact hU2
  · rw [if_neg g6] at h; exact same _ h
theorem k_week {x y c a : Int} {W J X : Nat → Nat → Int} {R : Nat → Nat → Nat} (h : f_m_week x y c W J R (a, X)) : ∀ k : Nat, k < 81 → X 1 k = W 1 k := by
  have same : ∀ (c : Int) (V : Nat → Nat → Int), (∀ k : Nat, k < 81 → V 1 k = W 1 k) → rtn (c, V) (a, X) → ∀ k : Nat, k < 81 → X 1 k = W 1 k := fun c V hV h => by
    simp only [rtn, Prod.mk.injEq] at h
    rw [h.2]
    exact hV
  have ret : ∀ (c : Int) (V : Nat → Nat → Int) (r : Int × (Nat → Nat → Int)), (∀ k : Nat, k < 81 → V 1 k = W 1 k) → rtn (c, V) r → ∀ k : Nat, k < 81 → r.2 1 k = W 1 k := fun c V r hV h => by
    simp only [rtn] at h
    subst h
    exact hV
  unfold f_m_week at h
  obtain ⟨z1, -, -, h⟩ := h
  by_cases g1 : z1 = 0
  · rw [if_pos g1] at h; exact same _ _ (fun _ _ => rfl) h
  rw [if_neg g1] at h
  obtain ⟨_, -, -, h⟩ := rdb_g h
  obtain ⟨_, -, -, h⟩ := rdb_g h
  obtain ⟨z6, -, -, h⟩ := h
  by_cases g6 : z6 = 0
  · rw [if_pos g6] at h; exact same _ _ (fun _ _ => rfl) h
  rw [if_neg g6] at h
  obtain ⟨z9, -, -, h⟩ := h
  -- the search
  have srch : ∀ (V1 V2 : Nat → Nat → Int) (w : Int) (hV1 : ∀ k : Nat, k < 81 → V1 1 k = W 1 k), ∀ {p q : Int}, f_m_wetBehind x y p V1 J R (q, V2) → ∀ k : Nat, k < 81 → V2 1 k = W 1 k := fun V1 V2 w hV1 p q h k hk => by
    rw [k_wetBehind h k hk]
    exact hV1 k hk
  by_cases g9 : ¬ z9 = 0
  · rw [if_pos g9] at h
    obtain ⟨z12, V12, -, hF, h⟩ := h
    have hV12 : ∀ k : Nat, k < 81 → V12 1 k = W 1 k := fun k _ => by rw [hF.rw 1 (by decide) (by decide)]
    obtain ⟨-, h⟩ := h
    by_cases g12 : ¬ z12 = 0
    · rw [if_pos g12] at h
      refine lop2_k (fun _ _ => True) (fun r : Int × (Nat → Nat → Int) => ∀ k : Nat, k < 81 → r.2 1 k = W 1 k) (fun rc hrc za zb _ r h => ?_) _ _ _ trivial _ h
      by_cases ga : 7 ≤ za
      · rw [if_pos ga] at h
        refine lop3_k (fun _ _ V => ∀ k : Nat, k < 81 → V 1 k = W 1 k) (fun r : Int × (Nat → Nat → Int) => ∀ k : Nat, k < 81 → r.2 1 k = W 1 k) (fun rc1 hrc1 a1 b1 V1 hV1 r h => ?_) _ _ _ _ hV12 _ h
        by_cases gb : zb ≤ a1
        · rw [if_pos gb] at h
          by_cases gc : ¬ b1 = (-1)
          · rw [if_pos gc] at h
            by_cases gd : ¬ c = 10
            · rw [if_pos gd] at h
              obtain ⟨w, U, hU, -, h⟩ := h
              exact ret _ _ _ (srch _ _ 0 hV1 hU) h
            · rw [if_neg gd] at h
              obtain ⟨_, -, h⟩ := h
              exact ret _ _ _ hV1 h
          · rw [if_neg gc] at h
            exact ret _ _ _ hV1 h
        · rw [if_neg gb] at h
          have h := jnk_d h
          by_cases gc : b1 = (-1)
          · rw [if_pos gc] at h
            obtain ⟨w, U, hU, -, h⟩ := h
            by_cases ge : w = (-1)
            · rw [if_pos ge] at h
              exact hrc1 _ _ _ (srch _ _ 0 hV1 hU) _ h
            · rw [if_neg ge] at h
              exact hrc1 _ _ _ (srch _ _ 0 hV1 hU) _ h
          · rw [if_neg gc] at h
            obtain ⟨p1, -, h⟩ := h
            obtain ⟨p2, -, h⟩ := h
            by_cases gd : p1 < p2
            · rw [if_pos gd] at h
              obtain ⟨w, U, hU, -, h⟩ := h
              by_cases ge : w = (-1)
              · rw [if_pos ge] at h
                exact hrc1 _ _ _ (srch _ _ 0 hV1 hU) _ h
              · rw [if_neg ge] at h
                exact hrc1 _ _ _ (srch _ _ 0 hV1 hU) _ h
            · rw [if_neg gd] at h
              exact hrc1 _ _ _ hV1 _ h
      · rw [if_neg ga] at h
        obtain ⟨_, -, h⟩ := rdb_g h
        exact hrc _ _ trivial _ h
    · rw [if_neg g12] at h; exact same _ _ hV12 h
  · rw [if_neg g9] at h
    obtain ⟨z0, -, -, h⟩ := h
    by_cases g0 : z0 = 0
    · rw [if_pos g0] at h; exact same _ _ (fun _ _ => rfl) h
    rw [if_neg g0] at h
    obtain ⟨z12, V12, -, hF, h⟩ := h
    have hV12 : ∀ k : Nat, k < 81 → V12 1 k = W 1 k := fun k _ => by rw [hF.rw 1 (by decide) (by decide)]
    obtain ⟨-, h⟩ := h
    by_cases g12 : ¬ z12 = 0
    · rw [if_pos g12] at h
      refine lop2_k (fun _ _ => True) (fun r : Int × (Nat → Nat → Int) => ∀ k : Nat, k < 81 → r.2 1 k = W 1 k) (fun rc hrc za zb _ r h => ?_) _ _ _ trivial _ h
      by_cases ga : 7 ≤ za
      · rw [if_pos ga] at h
        refine lop3_k (fun _ _ V => ∀ k : Nat, k < 81 → V 1 k = W 1 k) (fun r : Int × (Nat → Nat → Int) => ∀ k : Nat, k < 81 → r.2 1 k = W 1 k) (fun rc1 hrc1 a1 b1 V1 hV1 r h => ?_) _ _ _ _ hV12 _ h
        by_cases gb : zb ≤ a1
        · rw [if_pos gb] at h
          by_cases gc : ¬ b1 = (-1)
          · rw [if_pos gc] at h
            obtain ⟨w, -, -, h⟩ := h
            by_cases gd : ¬ w = y
            · rw [if_pos gd] at h
              obtain ⟨_, -, -, h⟩ := rdb_g h
              exact ret _ _ _ hV1 h
            · rw [if_neg gd] at h
              exact ret _ _ _ hV1 h
          · rw [if_neg gc] at h
            exact ret _ _ _ hV1 h
        · rw [if_neg gb] at h
          have h := jnk_d h
          by_cases gc : b1 = (-1)
          · rw [if_pos gc] at h
            obtain ⟨w, U, hU, -, h⟩ := h
            by_cases ge : w = (-1)
            · rw [if_pos ge] at h
              exact hrc1 _ _ _ (srch _ _ 0 hV1 hU) _ h
            · rw [if_neg ge] at h
              exact hrc1 _ _ _ (srch _ _ 0 hV1 hU) _ h
          · rw [if_neg gc] at h
            obtain ⟨p1, -, h⟩ := h
            obtain ⟨p2, -, h⟩ := h
            by_cases gd : p1 < p2
            · rw [if_pos gd] at h
              obtain ⟨w, U, hU, -, h⟩ := h
              by_cases ge : w = (-1)
              · rw [if_pos ge] at h
                exact hrc1 _ _ _ (srch _ _ 0 hV1 hU) _ h
              · rw [if_neg ge] at h
                exact hrc1 _ _ _ (srch _ _ 0 hV1 hU) _ h
            · rw [if_neg gd] at h
              exact hrc1 _ _ _ hV1 _ h
      · rw [if_neg ga] at h
        obtain ⟨_, -, h⟩ := rdb_g h
        exact hrc _ _ trivial _ h
    · rw [if_neg g12] at h; exact same _ _ hV12 h
theorem k_tried {x y a : Int} {W J X : Nat → Nat → Int} {R : Nat → Nat → Nat} (h : f_m_tried x y W J R (a, X)) : ∀ k : Nat, k < 81 → X 1 k = W 1 k := by
  have same : ∀ (c : Int), rtn (c, W) (a, X) → ∀ k : Nat, k < 81 → X 1 k = W 1 k := fun c h k _ => by
    simp only [rtn, Prod.mk.injEq] at h
    rw [h.2]
  have back : ∀ (c : Int) (V7 V8 V9 : Nat → Nat → Int), cpN W 1 2 81 = V7 → FBm 16924998368092956804513792 V7 V8 → cpN V8 2 1 81 = V9 → rtn (c, V9) (a, X) → ∀ k : Nat, k < 81 → X 1 k = W 1 k := fun c V7 V8 V9 e7 hF e9 h k hk => by
    simp only [rtn, Prod.mk.injEq] at h
    rw [h.2, ← e9, cpN_at hk, hF.rw 2 (by decide) (by decide), ← e7, cpN_at hk]
  unfold f_m_tried at h
  obtain ⟨z1, -, -, h⟩ := h
  by_cases g1 : ¬ z1 = 0
  · rw [if_pos g1] at h
    obtain ⟨z4, -, -, h⟩ := h
    by_cases g4 : z4 = 0
    · rw [if_pos g4] at h; exact same _ h
    rw [if_neg g4] at h
    obtain ⟨V7, e7, h⟩ := rdb_g h
    obtain ⟨V8, -, hF, h⟩ := h
    have h := jnk_d h
    by_cases c1 : ¬ y = 0
    · rw [if_pos c1] at h
      by_cases c2 : ¬ y = 1
      · rw [if_pos c2] at h
        by_cases c3 : ¬ y = 2
        · rw [if_pos c3] at h
          obtain ⟨_, -, h⟩ := rdb_g h
          obtain ⟨V9, e9, h⟩ := rdb_g h
          exact back _ _ _ _ e7 hF e9 h
        · rw [if_neg c3] at h
          obtain ⟨_, -, h⟩ := rdb_g h
          obtain ⟨_, -, h⟩ := h
          obtain ⟨V9, e9, h⟩ := rdb_g h
          exact back _ _ _ _ e7 hF e9 h
      · rw [if_neg c2] at h
        obtain ⟨_, -, h⟩ := rdb_g h
        obtain ⟨V9, e9, h⟩ := rdb_g h
        exact back _ _ _ _ e7 hF e9 h
    · rw [if_neg c1] at h
      obtain ⟨_, -, h⟩ := rdb_g h
      obtain ⟨V9, e9, h⟩ := rdb_g h
      exact back _ _ _ _ e7 hF e9 h
  rw [if_neg g1] at h
  obtain ⟨z27, -, -, h⟩ := h
  by_cases g27 : z27 = 0
  · rw [if_pos g27] at h
    obtain ⟨z29, -, -, h⟩ := h
    by_cases g29 : z29 = 0
    · rw [if_pos g29] at h
      obtain ⟨z31, -, -, h⟩ := h
      by_cases g31 : z31 = 0
      · rw [if_pos g31] at h; exact same _ h
      · rw [if_neg g31] at h; exact same _ h
    rw [if_neg g29] at h
    obtain ⟨z35, -, -, h⟩ := h
    by_cases g35 : z35 = 0
    · rw [if_pos g35] at h
      obtain ⟨z31, -, -, h⟩ := h
      by_cases g31 : z31 = 0
      · rw [if_pos g31] at h; exact same _ h
      · rw [if_neg g31] at h; exact same _ h
    rw [if_neg g35] at h
    obtain ⟨z41, -, -, h⟩ := h
    by_cases g41 : z41 = 0
    · rw [if_pos g41] at h; exact same _ h
    rw [if_neg g41] at h
    obtain ⟨V7, e7, h⟩ := rdb_g h
    obtain ⟨V8, -, hF, h⟩ := h
    obtain ⟨_, -, h⟩ := rdb_g h
    obtain ⟨V9, e9, h⟩ := rdb_g h
    exact back _ _ _ _ e7 hF e9 h
  rw [if_neg g27] at h
  obtain ⟨z49, -, -, h⟩ := h
  by_cases g49 : ¬ z49 = 0
  · rw [if_pos g49] at h
    obtain ⟨z52, -, -, h⟩ := h
    by_cases g52 : z52 = 0
    · rw [if_pos g52] at h; exact same _ h
    rw [if_neg g52] at h
    obtain ⟨V7, e7, h⟩ := rdb_g h
    obtain ⟨V8, -, hF, h⟩ := h
    obtain ⟨_, -, -, h⟩ := rdb_g h
    obtain ⟨V9, e9, h⟩ := rdb_g h
    exact back _ _ _ _ e7 hF e9 h
  rw [if_neg g49] at h
  obtain ⟨z59, -, -, h⟩ := h
  by_cases g59 : z59 = 0
  · rw [if_pos g59] at h
    obtain ⟨z31, -, -, h⟩ := h
    by_cases g31 : z31 = 0
    · rw [if_pos g31] at h; exact same _ h
    · rw [if_neg g31] at h; exact same _ h
  rw [if_neg g59] at h
  obtain ⟨z35, -, -, h⟩ := h
  by_cases g35 : z35 = 0
  · rw [if_pos g35] at h
    obtain ⟨z31, -, -, h⟩ := h
    by_cases g31 : z31 = 0
    · rw [if_pos g31] at h; exact same _ h
    · rw [if_neg g31] at h; exact same _ h
  rw [if_neg g35] at h
  obtain ⟨z41, -, -, h⟩ := h
  by_cases g41 : z41 = 0
  · rw [if_pos g41] at h; exact same _ h
  rw [if_neg g41] at h
  obtain ⟨V7, e7, h⟩ := rdb_g h
  obtain ⟨V8, -, hF, h⟩ := h
  obtain ⟨_, -, -, h⟩ := rdb_g h
  obtain ⟨V9, e9, h⟩ := rdb_g h
  exact back _ _ _ _ e7 hF e9 h
