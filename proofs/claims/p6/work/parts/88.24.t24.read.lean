-- reading: all of a text; law and rule (own work)
theorem CL.pass {t n : Nat} {V Y : Nat → Nat → Int} (h : CL t V Y n) (ht : isTx t) (hlt : Y 0 5 < Y 0 6) : CL t (up2 V 72 2 (Y 0 5 + 1)) (up2 Y 0 5 (Y 0 5 + 1)) n := by
  have tn := tx_ne ht
  have t2 : t + 2 ≠ 72 ∧ t + 3 ≠ 72 ∧ t + 4 ≠ 72 := by rcases ht with rfl | rfl | rfl | rfl | rfl | rfl <;> decide
  obtain ⟨c1, c2, c3, c4, c5, c6, c7, c8, c9⟩ := h
  have cp := c1.2.2.1
  refine ⟨c1.to (by rw [up2_s, up2_s]) (up2_n _ _ (Or.inr (by decide))) (up2_n _ _ (Or.inr (by decide))) (by rw [up2_s]; omega) (up2_c _ _ (by decide)) (up2_c _ _ (by decide)) (up2_c _ _ (by decide)), c2.to (up2_n _ _ (Or.inl tn.1.1)) (up2_c _ _ tn.1.2) (up2_n _ _ (Or.inr (by decide))) (up2_c _ _ (by decide)), ?_, ?_, ?_, ?_, c7, ?_, fun j hj => ?_⟩
  · rw [up2_n _ _ (Or.inr (by decide))]; exact c3
  · rw [up2_n _ _ (Or.inl tn.1.1), up2_s]; omega
  · rw [up2_n _ _ (Or.inl tn.1.1)]; exact c5
  · rw [up2_n _ _ (Or.inr (by decide))]; exact c6
  · rw [up2_n _ _ (Or.inl t2.2.1), up2_n _ _ (Or.inl tn.1.1)]; exact c8
  · exact (c9 j hj).cg (up2_n _ _ (Or.inl t2.1)) (up2_n _ _ (Or.inl t2.2.1)) (up2_n _ _ (Or.inl t2.2.2)) (up2_n _ _ (Or.inl t2.2.1)) (fun k _ => up2_n _ _ (Or.inl tn.1.2)) (by rw [up2_n _ _ (Or.inl tn.1.1)]; exact Int.le_refl _) (up2_n _ _ (Or.inl (by decide))) (up2_n _ _ (Or.inl (by decide))) (up2_n _ _ (Or.inl (by decide))) (up2_n _ _ (Or.inl (by decide)))
/-- what reading comes to -/
def RDD (t x : Nat) (a b : Int) (W U X : Nat → Nat → Int) : Prop := a = b ∧ X 0 4 = 0 ∧ ((a < 0 ∧ ∀ i : Nat, 11 ≤ i → X i = W i) ∨ ((0 < a ∧ a ≤ 14) ∧ RTz t x U X ∧ CHG x W X))
/-- the reference's end with a fault -/
theorem rd_bad {x : Nat} {k : Nat} {b : Int} {Y X J : Nat → Nat → Int} {R : Nat → Nat → Nat} (h : lop2 k (rdB x J R) 0 Y (b, X)) : b = Y 0 7 ∧ X = up2 Y 0 4 0 := by
  cases k with
  | zero => exact False.elim h
  | succ k =>
    have h : rdB x J R (lop2 k (rdB x J R)) 0 Y (b, X) := h
    unfold rdB at h
    rw [if_pos rfl] at h
    obtain ⟨V1, e1, h⟩ := rdb_g h
    obtain ⟨z, e2, h⟩ := rdb_g h
    simp only [rtn, Prod.mk.injEq] at h
    refine ⟨?_, by rw [h.2, ← e1]⟩
    rw [h.1, ← e2, ← e1, up2_n _ _ (Or.inr (by decide))]
/-- the reference's end -/
theorem rd_end {x n k : Nat} {b : Int} {Y X J : Nat → Nat → Int} {R : Nat → Nat → Nat} (h : lop2 k (rdB x J R) 1 Y (b, X)) (hn : Y 0 12 = n) (hc : 0 ≤ Y 0 10) (hend : Y 0 6 ≤ Y 0 5) : b = n ∧ X 0 4 = 0 ∧ (∀ q : Nat, (q : Int) < Y 0 10 → X 11 (220 * x + q) = Y 5 q) ∧ X 12 x = n ∧ (∀ q : Nat, q < n → X 13 (14 * x + q) = Y 7 q ∧ X 14 (14 * x + q) = 220 * x + Y 8 q ∧ X 15 (14 * x + q) = 220 * x + Y 9 q ∧ X 16 (14 * x + q) = 220 * x + Y 10 q) ∧ (n ≤ 14 → Y 0 10 ≤ 220 → CHG x Y X) := by
  cases k with
  | zero => exact False.elim h
  | succ k =>
    have h : rdB x J R (lop2 k (rdB x J R)) 1 Y (b, X) := h
    unfold rdB at h
    rw [if_neg (by decide)] at h
    obtain ⟨z617, e617, -, h⟩ := rdb_g h
    obtain ⟨z618, e618, -, h⟩ := rdb_g h
    obtain ⟨z619, e619, -, h⟩ := rdb_g h
    obtain ⟨z620, e620, -, h⟩ := rdb_g h
    rw [if_pos (by omega)] at h
    obtain ⟨V1, e1, h⟩ := rdb_g h
    obtain ⟨z1, f1, -, h⟩ := rdb_g h
    obtain ⟨z2, f2, -, h⟩ := rdb_g h
    obtain ⟨V2, e2, h⟩ := rdb_g h
    rw [← e1, up2_n _ _ (Or.inr (by decide))] at f1 f2
    obtain ⟨c, hcc⟩ : ∃ c : Nat, z1 = (c : Int) := ⟨z1.toNat, by omega⟩
    have hz2 : z2 = (n : Int) := by omega
    subst hcc hz2
    rw [Int.toNat_natCast x] at e2
    obtain ⟨h1, h2, h3, h4, h5, h6⟩ := cpK_all (x := x) (m := n) (c := c) 222 0 V2 X b (by omega) h
    have r0 : ∀ i : Nat, i ≠ 0 → i ≠ 12 → V2 i = Y i := fun i i1 i2 => by rw [← e2, up2_c _ _ i2, ← e1, up2_c _ _ i1]
    refine ⟨h1, ?_, fun q hq => ?_, ?_, fun q hq => ?_, fun hn14 hc220 => ⟨fun i hi => ?_, fun k hk => ?_, fun k hk => ?_, fun i k hi hk => ?_⟩⟩
    · rw [h2 0 (by decide), ← e2, up2_n _ _ (Or.inl (by decide)), ← e1, up2_s]
    · rw [h3 q (by omega) (by omega), r0 5 (by decide) (by decide)]
    · rw [h2 12 (by decide), ← e2, up2_s]
    · have := h5 q hq
      rw [r0 7 (by decide) (by decide), r0 8 (by decide) (by decide), r0 9 (by decide) (by decide), r0 10 (by decide) (by decide)] at this
      exact this
    · rw [h2 i (by omega), r0 i (by omega) (by omega)]
    · rw [h4 k (by omega), r0 11 (by decide) (by decide)]
    · rw [h2 12 (by decide), ← e2, up2_n _ _ (Or.inr hk), ← e1, up2_c _ _ (by decide)]
    · rw [h6 i k hi (by omega), r0 i (by omega) (by omega)]
theorem CHG.of {x : Nat} {W Y X : Nat → Nat → Int} (h : CHG x Y X) (e : ∀ i : Nat, 11 ≤ i → Y i = W i) : CHG x W X := by
  obtain ⟨m1, m2, m3, m4⟩ := h
  exact ⟨fun i hi => (m1 i hi).trans (e i (by omega)), fun k hk => by rw [m2 k hk, e 11 (by decide)], fun k hk => by rw [m3 k hk, e 12 (by decide)], fun i k hi hk => by rw [m4 i k hi hk, e i (by omega)]⟩
theorem q_read {k1 t x : Nat} {n a b : Int} {V W J Jm U X : Nat → Nat → Int} {R Rm : Nat → Nat → Nat} (hk : (k1 = 0 ∧ (x : Int) = 0) ∨ (k1 = 2 ∧ 0 < (x : Int))) (ht : isTx t) (hR : R 72 1 = t) (hT : TP V W) (hn : 1 ≤ n ∧ n ≤ 200) (hnt : n ≤ W 0 4) (hx : f_r_read n k1 V J R (a, U)) (hm : f_m_reads x n W Jm Rm (b, X)) : RDD t x a b W U X := by
  have tn := tx_ne ht
  obtain ⟨y, Y, k, hY, hF, hM⟩ := q_reads hn hnt hm
  unfold f_r_read at hx
  obtain ⟨V1, e1, hx⟩ := rdb_g hx
  obtain ⟨V2, e2, hx⟩ := rdb_g hx
  obtain ⟨V3, e3, hx⟩ := rdb_g hx
  obtain ⟨V4, e4, hx⟩ := rdb_g hx
  obtain ⟨t5, e5, hx⟩ := rdb_g hx
  rw [hR] at e5
  subst e5
  obtain ⟨V6, h6, -, hx⟩ := hx
  have e6 : V6 = up2 (up2 V4 t 1 0) t 5 0 := by
    unfold f_r_empty at h6
    obtain ⟨z, -, h6⟩ := rdb_g h6
    obtain ⟨Z1, f1, h6⟩ := rdb_g h6
    obtain ⟨Z2, f2, h6⟩ := rdb_g h6
    have h6 : V6 = Z2 := h6
    rw [h6, ← f2, ← f1]
  have v72 : V6 72 = V4 72 := by rw [e6, up2_c _ _ tn.1.1.symm, up2_c _ _ tn.1.1.symm]
  have v4 : V4 = up2 (up2 (up2 (up2 V 72 2 0) 72 3 n) 72 4 0) 72 5 0 := by rw [← e4, ← e3, ← e2, ← e1]
  have vo : ∀ i : Nat, i ≠ 72 → i ≠ t → V6 i = V i := fun i i1 i2 => by rw [e6, up2_c _ _ i2, up2_c _ _ i2, v4, up2_c _ _ i1, up2_c _ _ i1, up2_c _ _ i1, up2_c _ _ i1]
  have C0 : CL t V6 (up2 (up2 (up2 (up2 W 0 5 0) 0 6 n) 0 10 0) 0 12 0) 0 := by
    have w5 : up2 (up2 (up2 (up2 W 0 5 0) 0 6 n) 0 10 0) 0 12 0 0 5 = 0 := by rw [up2_n _ _ (Or.inr (by decide)), up2_n _ _ (Or.inr (by decide)), up2_n _ _ (Or.inr (by decide)), up2_s]
    have w6 : up2 (up2 (up2 (up2 W 0 5 0) 0 6 n) 0 10 0) 0 12 0 0 6 = n := by rw [up2_n _ _ (Or.inr (by decide)), up2_n _ _ (Or.inr (by decide)), up2_s]
    have w10 : up2 (up2 (up2 (up2 W 0 5 0) 0 6 n) 0 10 0) 0 12 0 0 10 = 0 := by rw [up2_n _ _ (Or.inr (by decide)), up2_s]
    have w4 : up2 (up2 (up2 (up2 W 0 5 0) 0 6 n) 0 10 0) 0 12 0 4 = W 4 := by rw [up2_c _ _ (by decide), up2_c _ _ (by decide), up2_c _ _ (by decide), up2_c _ _ (by decide)]
    have vt1 : V6 t 1 = 0 := by rw [e6, up2_n _ _ (Or.inr (by decide)), up2_s]
    refine ⟨⟨?_, ?_, ?_, fun q hq => ?_⟩, ⟨by rw [w10]; decide, by rw [vt1, w10]; rfl, fun q hq => by rw [w10] at hq; omega, fun i hi => by simp at hi⟩, ?_, by rw [vt1, w5]; decide, ?_, by rw [up2_s]; rfl, by decide, Or.inl rfl, fun j hj => by omega⟩
    · rw [w5, v72, v4, up2_n _ _ (Or.inr (by decide)), up2_n _ _ (Or.inr (by decide)), up2_n _ _ (Or.inr (by decide)), up2_s]
    · rw [w6, v72, v4, up2_n _ _ (Or.inr (by decide)), up2_n _ _ (Or.inr (by decide)), up2_s]
    · rw [w5, w6, vo 58 (by decide) tn.2.1.symm, hT.1]; omega
    · rw [w6] at hq
      rw [w4, vo 59 (by decide) tn.2.2.1.symm]
      exact hT.2.2 q (by omega)
    · rw [v72, v4, up2_n _ _ (Or.inr (by decide)), up2_s]
    · rw [e6, up2_s]; rfl
  have R0 : ∀ i : Nat, 11 ≤ i → up2 (up2 (up2 (up2 W 0 5 0) 0 6 n) 0 10 0) 0 12 0 i = W i := fun i hi => by rw [up2_c _ _ (by omega), up2_c _ _ (by omega), up2_c _ _ (by omega), up2_c _ _ (by omega)]
  generalize up2 (up2 (up2 (up2 W 0 5 0) 0 6 n) 0 10 0) 0 12 0 = W2 at *
  obtain ⟨bX, hbX, hx⟩ := lop2_g hx
  have key : ∀ (N j M : Nat) (V2 W2 Y : Nat → Nat → Int) (y : Int), CL t V2 W2 j → (∀ i : Nat, 11 ≤ i → W2 i = W i) → lop2 N bX (j : Int) V2 (a, U) → f_m_readsClause x W2 Jm Rm (y, Y) → FBm 37188636052598456065952 W2 Y → lop2 M (rdB x Jm Rm) y Y (b, X) → RDD t x a b W U X := by
    intro N
    induction N with
    | zero => intro j M V2 W2 Y y _ _ hx; exact False.elim hx
    | succ N ih =>
      intro j M V2 W2 Y y hC hW hx hY hF hM
      have c14 := hC.2.2.2.2.2.2.1
      rw [lop2_s hbX, if_neg (by omega)] at hx
      obtain ⟨z100, V100, h100, -, -, hx⟩ := hx
      rcases q_clause hk ht hR hC h100 hY with ⟨f1, f2, f3, f4, f5, f6, f7, f8, f9⟩ | ⟨f1, f2, f3⟩
      · rw [if_pos (by omega)] at hx
        subst f2
        obtain ⟨z103, e103, hx⟩ := rdb_g hx
        obtain ⟨z104, e104, hx⟩ := rdb_g hx
        rw [f4.1.1] at e103
        rw [f4.1.2.1] at e104
        have fp := f4.1.2.2.1
        have f8 : ∀ i : Nat, 11 ≤ i → Y i = W i := fun i hi => (f8 i hi).trans (hW i hi)
        by_cases g : z103 < z104
        · rw [if_pos g] at hx
          obtain ⟨z106, V106, h106, -, z106r, hx⟩ := hx
          cases M with
          | zero => exact False.elim hM
          | succ M =>
            have hM : rdB x Jm Rm (lop2 M (rdB x Jm Rm)) 1 Y (b, X) := hM
            unfold rdB at hM
            rw [if_neg (by decide)] at hM
            obtain ⟨z617, e617, -, hM⟩ := rdb_g hM
            obtain ⟨z618, e618, -, hM⟩ := rdb_g hM
            obtain ⟨z619, e619, -, hM⟩ := rdb_g hM
            obtain ⟨z620, e620, -, hM⟩ := rdb_g hM
            rw [if_neg (by omega)] at hM
            obtain ⟨z906, V906, h906, -, -, hM⟩ := hM
            obtain ⟨z907, -, -, hM⟩ := rdb_g hM
            rcases q_sign f4.1 h106 with ⟨g1, g2, g3⟩ | ⟨g1, g2, g3⟩
            · rw [if_pos (by omega)] at hx
              rcases q_takes h906 with ⟨l1, l2, l3⟩ | ⟨l1, -⟩
              · rw [if_neg (by omega)] at hM
                obtain ⟨z910, V910, h910, hF2, r910, hM⟩ := hM
                have hM : lop2 M (rdB x Jm Rm) z910 V910 (b, X) := by
                  by_cases gz : z910 = 0
                  · rw [if_pos gz] at hM
                    rw [gz]; exact hM
                  · rw [if_neg gz] at hM
                    rw [show z910 = 1 by omega]; exact hM
                have C2 := f4.pass ht (by omega)
                rw [← g3, ← l3] at C2
                refine ih (j + 1) M V106 V906 V910 z910 C2 (fun i hi => ?_) (by rw [Int.natCast_add]; exact hx) h910 hF2 hM
                rw [l3, up2_c _ _ (by omega)]
                exact f8 i hi
              · exact absurd g1 l1
            · rw [if_neg (fun hh => hh g2)] at hx
              obtain ⟨z108, e108, hx⟩ := rdb_g hx
              simp only [rtn, Prod.mk.injEq] at hx
              rcases q_takes h906 with ⟨l1, -⟩ | ⟨l1, l2, l3⟩
              · exact absurd l1 g1
              · rw [if_pos l2] at hM
                obtain ⟨m1, m2⟩ := rd_bad hM
                have ea : a = -1000 - Y 0 5 := by rw [hx.1, ← e108, g3, up2_s]
                have eb : b = -1000 - Y 0 5 := by rw [m1, l3, up2_s]
                refine ⟨by omega, by rw [m2, up2_s], Or.inl ⟨by omega, fun i hi => ?_⟩⟩
                rw [m2, up2_c _ _ (by omega), l3, up2_c _ _ (by omega)]
                exact f8 i hi
        · rw [if_neg g] at hx
          obtain ⟨z109, e109, -, hx⟩ := rdb_g hx
          simp only [rtn, Prod.mk.injEq] at hx
          obtain ⟨hx1, hx2⟩ := hx
          subst hx2
          obtain ⟨m1, m2, m3, m4, m5, m6⟩ := rd_end hM f4.2.2.2.2.2.1 f4.2.1.1 (by omega)
          have ea : a = ((j + 1 : Nat) : Int) := by rw [hx1, ← e109, f4.2.2.2.2.1]
          have cl : U t 1 = Y 0 10 := by have := f4.2.1.2.1; simpa using this
          have c4 := f4.2.2.2.1
          refine ⟨by rw [ea, m1], m2, Or.inr ⟨by omega, f4.rt m3 m4 m5, (m6 (by omega) (by omega)).of f8⟩⟩
      · rw [if_neg (fun hh => hh f1)] at hx
        subst f2
        obtain ⟨z110, e110, hx⟩ := rdb_g hx
        simp only [rtn, Prod.mk.injEq] at hx
        obtain ⟨m1, m2⟩ := rd_bad hM
        obtain ⟨f4, f5⟩ := f3
        refine ⟨by rw [hx.1, ← e110, f4, m1], by rw [m2, up2_s], Or.inl ⟨by rw [hx.1, ← e110]; exact f5, fun i hi => ?_⟩⟩
        rw [m2, up2_c _ _ (by omega), rows11 hF (by decide) i hi]
        exact hW i hi
  exact key 17 0 k V6 W2 Y y C0 R0 hx hY hF hM
