-- chances leave the landing as it was; the tape is emptied on both sides or on none (own work)
theorem k_fin {V W X J J2 : Nat → Nat → Int} {R R2 : Nat → Nat → Nat} {a c : Int} (hV : ∀ k : Nat, V 1 k = W 1 k) (h : rtn (c, (V, J, R)) (a, (X, J2, R2))) : ∀ k : Nat, X 1 k = W 1 k := by
  simp only [rtn, Prod.mk.injEq] at h
  rw [h.2.1]
  exact hV
theorem k_finr {V W J : Nat → Nat → Int} {R : Nat → Nat → Nat} {c : Int} {r : Int × xS} (hV : ∀ k : Nat, V 1 k = W 1 k) (h : rtn (c, (V, J, R)) r) : ∀ k : Nat, r.2.1 1 k = W 1 k := by
  simp only [rtn] at h
  subst h
  exact hV
set_option maxRecDepth 100000 in
theorem k_exactly {x y z u a : Int} {W J X J2 : Nat → Nat → Int} {R R2 : Nat → Nat → Nat} (h : f_m_exactly x y z u W J R (a, (X, J2, R2))) : ∀ k : Nat, X 1 k = W 1 k := by
  unfold f_m_exactly at h
  obtain ⟨z1, V1, -, hF, -, h⟩ := h
  have h1 : ∀ k : Nat, V1 1 k = W 1 k := fun k => by rw [hF.rw 1 (by decide) (by decide)]
  by_cases g1 : z1 = 0
  · rw [if_pos g1] at h; exact k_fin h1 h
  rw [if_neg g1] at h
  obtain ⟨z4, -, -, h⟩ := h
  by_cases g4 : ¬ z4 = 0
  · rw [if_pos g4] at h
    obtain ⟨z7, V7, J7, R7, h7, -, h⟩ := h
    have h7 : ∀ k : Nat, V7 1 k = W 1 k := fun k => (k_goes h7 k).trans (h1 k)
    by_cases g7 : ¬ u = (-1)
    · rw [if_pos g7] at h
      refine lop2_k (fun _ _ => True) (fun r : Int × xS => ∀ k : Nat, r.2.1 1 k = W 1 k) (fun rc hrc za zb _ r h => ?_) _ _ _ trivial _ h
      by_cases ga : 20 ≤ za
      · rw [if_pos ga] at h
        exact k_finr h7 h
      · rw [if_neg ga] at h
        obtain ⟨_, -, h⟩ := rdb_g h
        obtain ⟨_, -, h⟩ := rdb_g h
        exact hrc _ _ trivial _ h
    · rw [if_neg g7] at h
      obtain ⟨_, -, h⟩ := rdb_g h
      exact k_fin h7 h
  · rw [if_neg g4] at h; exact k_fin h1 h
set_option maxRecDepth 100000 in
theorem k_chance {x y z u a : Int} {W J X J2 : Nat → Nat → Int} {R R2 : Nat → Nat → Nat} (h : f_m_chance x y z u W J R (a, (X, J2, R2))) : ∀ k : Nat, X 1 k = W 1 k := by
  unfold f_m_chance at h
  obtain ⟨z1, V1, -, hF, -, h⟩ := h
  have h1 : ∀ k : Nat, V1 1 k = W 1 k := fun k => by rw [hF.rw 1 (by decide) (by decide)]
  by_cases g1 : z1 = 0
  · rw [if_pos g1] at h; exact k_fin h1 h
  rw [if_neg g1] at h
  obtain ⟨z4, -, -, h⟩ := h
  by_cases g4 : ¬ z4 = 0
  · rw [if_pos g4] at h
    refine lop6_k (fun _ _ _ V _ _ => ∀ k : Nat, V 1 k = W 1 k) (fun r : Int × xS => ∀ k : Nat, r.2.1 1 k = W 1 k) (fun rc hrc za zb zc V J R hV r h => ?_) _ _ _ _ _ _ _ h1 _ h
    by_cases ga : 10 < za
    · rw [if_pos ga] at h
      by_cases gu : ¬ u = 0
      · rw [if_pos gu] at h; exact k_finr hV h
      · rw [if_neg gu] at h; exact k_finr hV h
    · rw [if_neg ga] at h
      refine lop2_k (fun _ V => ∀ k : Nat, V 1 k = W 1 k) (fun r : Int × xS => ∀ k : Nat, r.2.1 1 k = W 1 k) (fun rc1 hrc1 z2 V2 hV2 r h => ?_) _ _ _ hV _ h
      by_cases g2 : z ≤ z2
      · rw [if_pos g2] at h
        obtain ⟨w, V7, J7, R7, h7, -, h⟩ := h
        have h7 : ∀ k : Nat, V7 1 k = W 1 k := fun k => (k_goes h7 k).trans (hV2 k)
        have h := jnk_d h
        by_cases gw : 0 < lcI w zb
        · rw [if_pos gw] at h; exact hrc _ _ _ _ _ _ h7 _ h
        · rw [if_neg gw] at h; exact hrc _ _ _ _ _ _ h7 _ h
      · rw [if_neg g2] at h
        obtain ⟨V9, e9, h⟩ := rdb_g h
        exact hrc1 _ _ (fun k => by rw [← e9, up2_c _ _ (by decide)]; exact hV2 k) _ h
  · rw [if_neg g4] at h; exact k_fin h1 h
set_option maxRecDepth 100000 in
theorem k_toAsk {x y z u a : Int} {W J X J2 : Nat → Nat → Int} {R R2 : Nat → Nat → Nat} (h : f_m_toAsk x y z u W J R (a, (X, J2, R2))) : ∀ k : Nat, X 1 k = W 1 k := by
  unfold f_m_toAsk at h
  obtain ⟨z1, V1, -, hF, -, h⟩ := h
  have h1 : ∀ k : Nat, V1 1 k = W 1 k := fun k => by rw [hF.rw 1 (by decide) (by decide)]
  by_cases g1 : z1 = 0
  · rw [if_pos g1] at h; exact k_fin h1 h
  rw [if_neg g1] at h
  obtain ⟨z4, -, -, h⟩ := h
  by_cases g4 : ¬ z4 = 0
  · rw [if_pos g4] at h
    obtain ⟨w0, V0, J0, R0, h0, -, h⟩ := h
    have h0 : ∀ k : Nat, V0 1 k = W 1 k := fun k => (k_goes h0 k).trans (h1 k)
    refine lop6_k (fun _ _ _ V _ _ => ∀ k : Nat, V 1 k = W 1 k) (fun r : Int × xS => ∀ k : Nat, r.2.1 1 k = W 1 k) (fun rc hrc za zb zc V J R hV r h => ?_) _ _ _ _ _ _ _ h0 _ h
    by_cases ga : z ≤ za
    · rw [if_pos ga] at h
      by_cases gu : ¬ u = 0
      · rw [if_pos gu] at h; exact k_finr hV h
      · rw [if_neg gu] at h; exact k_finr hV h
    · rw [if_neg ga] at h
      refine lop2_k (fun _ V => ∀ k : Nat, V 1 k = W 1 k) (fun r : Int × xS => ∀ k : Nat, r.2.1 1 k = W 1 k) (fun rc1 hrc1 z2 V2 hV2 r h => ?_) _ _ _ hV _ h
      by_cases g2 : z ≤ z2
      · rw [if_pos g2] at h
        obtain ⟨w, V7, J7, R7, h7, -, h⟩ := h
        have h7 : ∀ k : Nat, V7 1 k = W 1 k := fun k => (k_goes h7 k).trans (hV2 k)
        have h := jnk_d h
        by_cases gw : 0 < lcI w zb
        · rw [if_pos gw] at h
          obtain ⟨_, -, -, h⟩ := rdb_g h
          exact hrc _ _ _ _ _ _ h7 _ h
        · rw [if_neg gw] at h; exact hrc _ _ _ _ _ _ h7 _ h
      · rw [if_neg g2] at h
        have h := jnk_d h
        by_cases g3 : ¬ z2 = za
        · rw [if_pos g3] at h
          obtain ⟨_, -, -, h⟩ := rdb_g h
          obtain ⟨_, -, h⟩ := rdb_g h
          obtain ⟨_, -, h⟩ := rdb_g h
          obtain ⟨_, -, h⟩ := h
          obtain ⟨V9, e9, h⟩ := rdb_g h
          exact hrc1 _ _ (fun k => by rw [← e9, up2_c _ _ (by decide)]; exact hV2 k) _ h
        · rw [if_neg g3] at h
          obtain ⟨V9, e9, h⟩ := rdb_g h
          exact hrc1 _ _ (fun k => by rw [← e9, up2_c _ _ (by decide)]; exact hV2 k) _ h
  · rw [if_neg g4] at h; exact k_fin h1 h
set_option maxRecDepth 100000 in
theorem k_few {x y z u a : Int} {W J X J2 : Nat → Nat → Int} {R R2 : Nat → Nat → Nat} (h : f_m_few x y z u W J R (a, (X, J2, R2))) : ∀ k : Nat, X 1 k = W 1 k := by
  unfold f_m_few at h
  obtain ⟨z1, V1, -, hF, -, h⟩ := h
  have h1 : ∀ k : Nat, V1 1 k = W 1 k := fun k => by rw [hF.rw 1 (by decide) (by decide)]
  by_cases g1 : z1 = 0
  · rw [if_pos g1] at h; exact k_fin h1 h
  rw [if_neg g1] at h
  obtain ⟨z4, -, -, h⟩ := h
  by_cases g4 : ¬ z4 = 0
  · rw [if_pos g4] at h
    refine lop4_k (fun _ V _ _ => ∀ k : Nat, V 1 k = W 1 k) (fun r : Int × xS => ∀ k : Nat, r.2.1 1 k = W 1 k) (fun rc hrc za V J R hV r h => ?_) _ _ _ _ _ h1 _ h
    by_cases ga : z < za
    · rw [if_pos ga] at h
      exact k_finr hV h
    · rw [if_neg ga] at h
      obtain ⟨_, -, -, h⟩ := rdb_g h
      obtain ⟨_, -, -, h⟩ := h
      obtain ⟨w, V7, J7, R7, h7, -, h⟩ := h
      have h7 : ∀ k : Nat, V7 1 k = W 1 k := fun k => (k_goes h7 k).trans (hV k)
      obtain ⟨v, -, h⟩ := rdb_g h
      by_cases gw : lcI w v < 0
      · rw [if_pos gw] at h; exact hrc _ _ _ _ h7 _ h
      · rw [if_neg gw] at h; exact k_finr h7 h
  · rw [if_neg g4] at h; exact k_fin h1 h
set_option maxRecDepth 100000 in
theorem k_pot {x y z u a : Int} {W J X J2 : Nat → Nat → Int} {R R2 : Nat → Nat → Nat} (h : f_m_pot x y z u W J R (a, (X, J2, R2))) : ∀ k : Nat, X 1 k = W 1 k := by
  unfold f_m_pot at h
  obtain ⟨z1, V1, -, hF, -, h⟩ := h
  have h1 : ∀ k : Nat, V1 1 k = W 1 k := fun k => by rw [hF.rw 1 (by decide) (by decide)]
  by_cases g1 : z1 = 0
  · rw [if_pos g1] at h; exact k_fin h1 h
  rw [if_neg g1] at h
  obtain ⟨z4, -, -, h⟩ := h
  by_cases g4 : ¬ z4 = 0
  · rw [if_pos g4] at h
    obtain ⟨w, V7, J7, R7, h7, -, h⟩ := h
    have h7 : ∀ k : Nat, V7 1 k = W 1 k := fun k => (k_goes h7 k).trans (h1 k)
    obtain ⟨z8, e8, -, h⟩ := rdb_g h
    obtain ⟨z9, e9, -, h⟩ := rdb_g h
    obtain ⟨V10, f10, h⟩ := rdb_g h
    obtain ⟨z11, -, h⟩ := h
    obtain ⟨V13, f13, h⟩ := rdb_g h
    obtain ⟨V14, f14, h⟩ := rdb_g h
    obtain ⟨w2, V15, J15, R15, h15, -, h⟩ := h
    obtain ⟨V16, f16, h⟩ := rdb_g h
    obtain ⟨V17, f17, h⟩ := rdb_g h
    obtain ⟨_, -, h⟩ := rdb_g h
    refine k_fin (fun k => ?_) h
    have k15 := k_goes h15
    rw [← f17]
    by_cases ga : k = (x + 4).toNat
    · rw [ga, up2_s, ← e9]; exact h7 _
    · rw [up2_n _ _ (Or.inr ga), ← f16]
      by_cases gb : k = x.toNat
      · rw [gb, up2_s, ← e8]; exact h7 _
      · rw [up2_n _ _ (Or.inr gb), k15 k, ← f14, up2_c _ _ (by decide), ← f13, up2_n _ _ (Or.inr ga), ← f10, up2_n _ _ (Or.inr gb)]
        exact h7 k
  · rw [if_neg g4] at h; exact k_fin h1 h
set_option maxRecDepth 100000 in
theorem k_ruleFor {x y z u v a : Int} {W J X J2 : Nat → Nat → Int} {R R2 : Nat → Nat → Nat} (h : f_m_ruleFor x y z u v W J R (a, (X, J2, R2))) : ∀ k : Nat, X 1 k = W 1 k := by
  unfold f_m_ruleFor at h
  obtain ⟨z1, V1, -, hF, -, h⟩ := h
  have h1 : ∀ k : Nat, V1 1 k = W 1 k := fun k => by rw [hF.rw 1 (by decide) (by decide)]
  by_cases g1 : z1 = 0
  · rw [if_pos g1] at h; exact k_fin h1 h
  rw [if_neg g1] at h
  obtain ⟨z4, -, -, h⟩ := h
  by_cases g4 : z4 = 0
  · rw [if_pos g4] at h; exact k_fin h1 h
  rw [if_neg g4] at h
  obtain ⟨z7, -, -, h⟩ := h
  by_cases g7 : ¬ z7 = 0
  · rw [if_pos g7] at h
    obtain ⟨V10, e10, h⟩ := rdb_g h
    refine lop6_k (fun _ _ _ V _ _ => ∀ k : Nat, V 1 k = W 1 k) (fun r : Int × xS => ∀ k : Nat, r.2.1 1 k = W 1 k) (fun rc hrc za zb zc V J R hV r h => ?_) _ _ _ _ _ _ _ (fun k => by rw [← e10, up2_c _ _ (by decide)]; exact h1 k) _ h
    by_cases ga : 24 < za
    · rw [if_pos ga] at h
      obtain ⟨V11, e11, h⟩ := rdb_g h
      have hV11 : ∀ k : Nat, V11 1 k = W 1 k := fun k => by rw [← e11, up2_c _ _ (by decide)]; exact hV k
      by_cases gu : ¬ v = 0
      · rw [if_pos gu] at h; exact k_finr hV11 h
      · rw [if_neg gu] at h; exact k_finr hV11 h
    · rw [if_neg ga] at h
      obtain ⟨V11, e11, h⟩ := rdb_g h
      have hV11 : ∀ k : Nat, V11 1 k = W 1 k := fun k => by rw [← e11, up2_c _ _ (by decide)]; exact hV k
      obtain ⟨w, V7, J7, R7, h7, -, h⟩ := h
      have h7 : ∀ k : Nat, V7 1 k = W 1 k := fun k => (k_goes h7 k).trans (hV11 k)
      have h := jnk_d h
      by_cases gw : 0 < lcI w zb
      · rw [if_pos gw] at h; exact hrc _ _ _ _ _ _ h7 _ h
      · rw [if_neg gw] at h; exact hrc _ _ _ _ _ _ h7 _ h
  · rw [if_neg g7] at h; exact k_fin h1 h
set_option maxRecDepth 100000 in
theorem k_movesOut {x y z u a : Int} {W J X J2 : Nat → Nat → Int} {R R2 : Nat → Nat → Nat} (h : f_m_movesOut x y z u W J R (a, (X, J2, R2))) : ∀ k : Nat, X 1 k = W 1 k := by
  unfold f_m_movesOut at h
  obtain ⟨z1, V1, -, hF, -, h⟩ := h
  have h1 : ∀ k : Nat, V1 1 k = W 1 k := fun k => by rw [hF.rw 1 (by decide) (by decide)]
  by_cases g1 : z1 = 0
  · rw [if_pos g1] at h; exact k_fin h1 h
  rw [if_neg g1] at h
  obtain ⟨z4, -, -, h⟩ := h
  by_cases g4 : ¬ z4 = 0
  · rw [if_pos g4] at h
    refine lop6_k (fun _ _ _ V _ _ => ∀ k : Nat, V 1 k = W 1 k) (fun r : Int × xS => ∀ k : Nat, r.2.1 1 k = W 1 k) (fun rc hrc za zb zc V J R hV r h => ?_) _ _ _ _ _ _ _ h1 _ h
    by_cases ga : z ≤ za
    · rw [if_pos ga] at h
      by_cases gu : ¬ u = 0
      · rw [if_pos gu] at h; exact k_finr hV h
      · rw [if_neg gu] at h; exact k_finr hV h
    · rw [if_neg ga] at h
      refine lop2_k (fun _ V => ∀ k : Nat, V 1 k = W 1 k) (fun r : Int × xS => ∀ k : Nat, r.2.1 1 k = W 1 k) (fun rc1 hrc1 z2 V2 hV2 r h => ?_) _ _ _ hV _ h
      by_cases g2 : z ≤ z2
      · rw [if_pos g2] at h
        obtain ⟨w, V7, J7, R7, h7, -, h⟩ := h
        have h7 : ∀ k : Nat, V7 1 k = W 1 k := fun k => (k_goes h7 k).trans (hV2 k)
        have h := jnk_d h
        by_cases gw : zc = (-1)
        · rw [if_pos gw] at h
          obtain ⟨_, -, -, h⟩ := rdb_g h
          exact hrc _ _ _ _ _ _ h7 _ h
        · rw [if_neg gw] at h
          by_cases gx : lcI w zb < 0
          · rw [if_pos gx] at h
            obtain ⟨_, -, -, h⟩ := rdb_g h
            exact hrc _ _ _ _ _ _ h7 _ h
          · rw [if_neg gx] at h; exact hrc _ _ _ _ _ _ h7 _ h
      · rw [if_neg g2] at h
        have h := jnk_d h
        by_cases g3 : ¬ z2 = za
        · rw [if_pos g3] at h
          obtain ⟨_, -, -, h⟩ := rdb_g h
          obtain ⟨_, -, h⟩ := rdb_g h
          obtain ⟨V9, e9, h⟩ := rdb_g h
          exact hrc1 _ _ (fun k => by rw [← e9, up2_c _ _ (by decide)]; exact hV2 k) _ h
        · rw [if_neg g3] at h
          obtain ⟨V9, e9, h⟩ := rdb_g h
          exact hrc1 _ _ (fun k => by rw [← e9, up2_c _ _ (by decide)]; exact hV2 k) _ h
  · rw [if_neg g4] at h; exact k_fin h1 h
-- the tape
theorem jbc : ∀ s : Nat, s < 256 → (let x : Int := (s : Int); let z2 := iAnd (iUshr x 1) 1431655765; let z3 := wr (x - z2); let z4 := iAnd z3 858993459; let z6 := iAnd (iUshr z3 2) 858993459; let z9 := iAnd (wr (z4 + z6 + iUshr (z4 + z6) 4)) 252645135; let z11 := wr (z9 + iUshr z9 8); iAnd (wr (z11 + iUshr z11 16)) 63) = cnt (s : Int) := by decide +kernel
theorem q_bitCount {x r : Int} (h : f_s_bitCount x r) (hx : 0 ≤ x ∧ x < 256) : r = cnt x := by
  have e := jbc x.toNat (by omega)
  rw [show ((x.toNat : Nat) : Int) = x by omega] at e
  simp only [f_s_bitCount, rdb, fct, rtn] at h
  obtain ⟨-, -, -, -, -, h⟩ := h
  rw [h]
  exact e
theorem t_comes {x y z a b : Int} {V V2 J J2 W Jm X Jm2 : Nat → Nat → Int} {R R2 Rm Rm2 : Nat → Nat → Nat} (h : TP V W) (hx : f_s_comes x y z V J R (a, (V2, J2, R2))) (hm : f_m_comes x y z W Jm Rm (b, (X, Jm2, Rm2))) : TP V2 X := by
  have same : ∀ {c d : Int} {Jx Jy : Nat → Nat → Int} {Rx Ry : Nat → Nat → Nat}, rtn (c, (V, Jx, Rx)) (a, (V2, J2, R2)) → rtn (d, (W, Jy, Ry)) (b, (X, Jm2, Rm2)) → TP V2 X := fun h1 h2 => by
    simp only [rtn, Prod.mk.injEq] at h1 h2
    rw [h1.2.1, h2.2.1]
    exact h
  unfold f_s_comes at hx
  unfold f_m_comes at hm
  obtain ⟨z1, h1, -, hx⟩ := hx
  obtain ⟨y1, k1, -, hm⟩ := hm
  have h1 := q_sWithin h1
  have e1 : z1 = y1 := h1.eq (q_mIn k1) Iff.rfl
  subst e1
  by_cases g1 : z1 = 0
  · rw [if_pos g1] at hx hm; exact same hx hm
  rw [if_neg g1] at hx hm
  obtain ⟨z4, h4, -, hx⟩ := hx
  obtain ⟨y4, k4, -, hm⟩ := hm
  have h4 := q_sWithin h4
  have e4 : z4 = y4 := h4.eq (q_mIn k4) Iff.rfl
  subst e4
  by_cases g4 : z4 = 0
  · rw [if_pos g4] at hx hm; exact same hx hm
  rw [if_neg g4] at hx hm
  obtain ⟨z7, h7, -, hx⟩ := hx
  obtain ⟨y7, k7, -, hm⟩ := hm
  have h7 := q_sWithin h7
  have e7 : z7 = y7 := h7.eq (q_mIn k7) Iff.rfl
  subst e7
  by_cases g7 : z7 = 0
  · rw [if_neg (fun hh => hh g7)] at hx
    rw [if_pos g7] at hm
    exact same hx hm
  rw [if_pos g7] at hx
  rw [if_neg g7] at hm
  obtain ⟨z10, e10, -, hx⟩ := rdb_g hx
  obtain ⟨y10, f10, -, hm⟩ := rdb_g hm
  have e : z10 = y10 := by rw [← e10, ← f10]; exact h.1
  subst e
  by_cases g10 : x ≤ z10
  · rw [if_pos g10] at hx hm
    obtain ⟨z12, V12, J12, R12, -, -, -, hx⟩ := hx
    obtain ⟨V13, e13, hx⟩ := rdb_g hx
    obtain ⟨W12, f12, hm⟩ := rdb_g hm
    have c1 : V2 58 1 = 0 := by
      by_cases g : z12 = 0
      · rw [if_pos g] at hx
        simp only [rtn, Prod.mk.injEq] at hx
        rw [hx.2.1, ← e13, up2_s]
      · rw [if_neg g] at hx
        obtain ⟨_, -, hx⟩ := rdb_g hx
        obtain ⟨_, -, hx⟩ := hx
        obtain ⟨_, -, hx⟩ := hx
        simp only [rtn, Prod.mk.injEq] at hx
        rw [hx.2.1, ← e13, up2_s]
    have c2 : X 0 4 = 0 := by
      obtain ⟨z13, -, -, hm⟩ := hm
      by_cases g : ¬ z13 = 0
      · rw [if_pos g] at hm
        obtain ⟨W15, J15, R15, -, hF, hm⟩ := hm
        obtain ⟨_, -, hm⟩ := rdb_g hm
        obtain ⟨_, -, -, hm⟩ := hm
        obtain ⟨_, -, hm⟩ := hm
        simp only [rtn, Prod.mk.injEq] at hm
        rw [hm.2.1, hF.fl 4 (by decide), ← f12, up2_s]
      · rw [if_neg g] at hm
        simp only [rtn, Prod.mk.injEq] at hm
        rw [hm.2.1, ← f12, up2_s]
    exact TP.nil c1 c2
  · rw [if_neg g10] at hx hm; exact same hx hm
theorem t_can {x y z u a b : Int} {V V2 J J2 W Jm X Jm2 : Nat → Nat → Int} {R R2 Rm Rm2 : Nat → Nat → Nat} (h : TP V W) (hx : f_s_can x y z u V J R (a, (V2, J2, R2))) (hm : f_m_can x y z u W Jm Rm (b, (X, Jm2, Rm2))) : TP V2 X := by
  have same : ∀ {c d : Int} {Jx Jy : Nat → Nat → Int} {Rx Ry : Nat → Nat → Nat}, rtn (c, (V, Jx, Rx)) (a, (V2, J2, R2)) → rtn (d, (W, Jy, Ry)) (b, (X, Jm2, Rm2)) → TP V2 X := fun h1 h2 => by
    simp only [rtn, Prod.mk.injEq] at h1 h2
    rw [h1.2.1, h2.2.1]
    exact h
  unfold f_s_can at hx
  unfold f_m_can at hm
  obtain ⟨z1, h1, -, hx⟩ := hx
  obtain ⟨y1, k1, -, hm⟩ := hm
  have h1 := q_sWithin h1
  have e1 : z1 = y1 := h1.eq (q_mIn k1) Iff.rfl
  subst e1
  by_cases g1 : z1 = 0
  · rw [if_pos g1] at hx hm; exact same hx hm
  rw [if_neg g1] at hx hm
  obtain ⟨z4, h4, -, hx⟩ := hx
  obtain ⟨y4, k4, -, hm⟩ := hm
  have h4 := q_sWithin h4
  have e4 : z4 = y4 := h4.eq (q_mIn k4) Iff.rfl
  subst e4
  by_cases g4 : z4 = 0
  · rw [if_neg (fun hh => hh g4)] at hx
    rw [if_pos g4] at hm
    exact same hx hm
  rw [if_pos g4] at hx
  rw [if_neg g4] at hm
  obtain ⟨z7, h7, -, hx⟩ := hx
  obtain ⟨y7, k7, -, hm⟩ := hm
  have h7 := q_sWithin h7
  have e7 : z7 = y7 := h7.eq (q_mIn k7) Iff.rfl
  subst e7
  by_cases g7 : z7 = 0
  · rw [if_pos g7] at hx hm; exact same hx hm
  rw [if_neg g7] at hx hm
  obtain ⟨z9, h9, -, hx⟩ := hx
  obtain ⟨y9, k9, -, hm⟩ := hm
  have h9 := q_sWithin h9
  have e9 : z9 = y9 := h9.eq (q_mIn k9) Iff.rfl
  subst e9
  by_cases g9 : z9 = 0
  · rw [if_pos g9] at hx hm; exact same hx hm
  rw [if_neg g9] at hx hm
  obtain ⟨z10, e10, -, hx⟩ := rdb_g hx
  obtain ⟨y10, f10, -, hm⟩ := rdb_g hm
  have e : z10 = y10 := by rw [← e10, ← f10]; exact h.1
  subst e
  by_cases g10 : x ≤ z10
  · rw [if_pos g10] at hx hm
    obtain ⟨z12, V12, J12, R12, -, -, -, hx⟩ := hx
    obtain ⟨V13, e13, hx⟩ := rdb_g hx
    obtain ⟨W12, f12, hm⟩ := rdb_g hm
    have c1 : V2 58 1 = 0 := by
      by_cases g : ¬ z12 = 0
      · rw [if_pos g] at hx
        refine lop2_k (fun _ _ => True) (fun r : Int × xS => r.2.1 58 1 = 0) (fun rc hrc za zb _ r h => ?_) _ _ _ trivial _ hx
        by_cases ga : x < za
        · rw [if_pos ga] at h
          obtain ⟨_, -, h⟩ := h
          obtain ⟨_, -, h⟩ := h
          simp only [rtn] at h
          rw [h]
          show V13 58 1 = 0
          rw [← e13, up2_s]
        · rw [if_neg ga] at h
          obtain ⟨_, -, -, h⟩ := rdb_g h
          obtain ⟨_, -, -, h⟩ := rdb_g h
          obtain ⟨_, -, -, h⟩ := rdb_g h
          obtain ⟨_, -, -, h⟩ := rdb_g h
          obtain ⟨_, -, -, h⟩ := rdb_g h
          obtain ⟨_, -, h⟩ := rdb_g h
          obtain ⟨_, -, h⟩ := rdb_g h
          obtain ⟨_, -, h⟩ := rdb_g h
          exact hrc _ _ trivial _ h
      · rw [if_neg g] at hx
        simp only [rtn, Prod.mk.injEq] at hx
        rw [hx.2.1, ← e13, up2_s]
    have c2 : X 0 4 = 0 := by
      obtain ⟨z13, -, -, hm⟩ := hm
      by_cases g : ¬ z13 = 0
      · rw [if_pos g] at hm
        obtain ⟨W15, J15, R15, -, hF, hm⟩ := hm
        refine lop2_k (fun _ _ => True) (fun r : Int × xS => r.2.1 0 4 = 0) (fun rc hrc za zb _ r h => ?_) _ _ _ trivial _ hm
        by_cases ga : x < za
        · rw [if_pos ga] at h
          obtain ⟨_, -, -, h⟩ := h
          obtain ⟨_, -, h⟩ := h
          simp only [rtn] at h
          rw [h]
          show W15 0 4 = 0
          rw [hF.fl 4 (by decide), ← f12, up2_s]
        · rw [if_neg ga] at h
          obtain ⟨_, -, h⟩ := rdb_g h
          obtain ⟨_, -, -, h⟩ := rdb_g h
          obtain ⟨_, -, h⟩ := h
          obtain ⟨_, -, h⟩ := h
          obtain ⟨_, -, h⟩ := rdb_g h
          obtain ⟨_, -, h⟩ := rdb_g h
          exact hrc _ _ trivial _ h
      · rw [if_neg g] at hm
        simp only [rtn, Prod.mk.injEq] at hm
        rw [hm.2.1, ← f12, up2_s]
    exact TP.nil c1 c2
  · rw [if_neg g10] at hx hm; exact same hx hm
