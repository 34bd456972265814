-- texts asked: the same on both sides (own work)
theorem FB.row {P : Nat → Nat → Prop} {V W : Nat → Nat → Int} (h : FB P V W) {i : Nat} (hi : ∀ k, ¬ P i k) : W i = V i := funext fun k => h i k (hi k)
theorem FBm.row {m : Nat} {V W : Nat → Nat → Int} (h : FBm m V W) {i : Nat} (hi : ∀ k, m.testBit (mkey i k) = false) : W i = V i := funext fun k => h i k (hi k)
theorem q_ask {t tx : Nat} {Vx Jx Vm Jm U X : Nat → Nat → Int} {Rx Rm : Nat → Nat → Nat} {lt mo a b : Int} (ht : isTx t) (htx : tx < 5) (hT : RTz t tx Vx Vm) (hF : RF Vx Vm) (hmo : 0 ≤ mo)
    (hx : f_s_ask t lt mo Vx Jx Rx (a, U)) (hm : f_m_byText tx lt mo Vm Jm Rm (b, X)) : a = b ∧ U 70 = Vx 70 ∧ ∀ i : Nat, i ≠ 17 → X i = Vm i := by
  obtain ⟨hT1, hT2, hT3, hT4⟩ := hT
  have t1 : (t ≠ 69 ∧ t ≠ 71) ∧ (t + 1 ≠ 69 ∧ t + 1 ≠ 71) ∧ (t + 2 ≠ 69 ∧ t + 2 ≠ 71) ∧ (t + 3 ≠ 69 ∧ t + 3 ≠ 71) ∧ t + 4 ≠ 69 ∧ t + 4 ≠ 71 := by rcases ht with rfl | rfl | rfl | rfl | rfl | rfl <;> decide
  simp only [f_s_ask, rdb] at hx
  simp only [f_m_byText, rdb] at hm
  obtain ⟨bX, hbX, hx⟩ := lop2_g hx
  obtain ⟨bM, hbM, hm⟩ := lop2_g hm
  have key : ∀ (n m j : Nat) (V W : Nat → Nat → Int), (∀ i : Nat, i ≠ 69 → i ≠ 71 → V i = Vx i) → (∀ i : Nat, i ≠ 17 → W i = Vm i) → lop2 n bX (j : Int) V (a, U) → lop2 m bM (14 * (tx : Int) + j) W (b, X) → a = b ∧ U 70 = Vx 70 ∧ ∀ i : Nat, i ≠ 17 → X i = Vm i := by
    intro n
    induction n with
    | zero => intro m j V W _ _ hx; exact False.elim hx
    | succ n ih =>
      intro m j V W hV hW hx hm
      cases m with
      | zero => exact False.elim hm
      | succ m =>
        rw [lop2_s hbX] at hx
        rw [lop2_s hbM] at hm
        have e0 : V t = Vx t := hV t t1.1.1 t1.1.2
        have e1 : V (t + 1) = Vx (t + 1) := hV _ t1.2.1.1 t1.2.1.2
        have e2 : V (t + 2) = Vx (t + 2) := hV _ t1.2.2.1.1 t1.2.2.1.2
        have e3 : V (t + 3) = Vx (t + 3) := hV _ t1.2.2.2.1.1 t1.2.2.2.1.2
        have e4 : V (t + 4) = Vx (t + 4) := hV _ t1.2.2.2.2.1 t1.2.2.2.2.2
        have eL : V 70 = Vx 70 := hV 70 (by decide) (by decide)
        have ej : (14 * (tx : Int) + (j : Int)).toNat = 14 * tx + j := by omega
        have ej1 : ((j : Int) + 1).toNat = j + 1 := by omega
        have hRF : RF V W := fun i hi => by rw [eL, hW 18 (by decide)]; exact hF i hi
        obtain ⟨-, hx⟩ := hx
        obtain ⟨-, hm⟩ := hm
        rw [e0] at hx
        rw [Int.toNat_natCast, hW 12 (by decide), ← hT1] at hm
        by_cases hj : Vx t 5 ≤ (j : Int)
        · rw [if_pos hj] at hx
          rw [if_pos (by omega)] at hm
          simp only [rtn, Prod.mk.injEq] at hx hm
          exact ⟨hx.1.trans hm.1.symm, by rw [hx.2]; exact eL, fun i hi => by rw [hm.2]; exact hW i hi⟩
        · rw [if_neg hj] at hx
          rw [if_neg (by omega)] at hm
          obtain ⟨r1, r2, r3, r4, r5, r6, r7, r8, r9, r10⟩ := hT4 j (by omega)
          obtain ⟨-, hx⟩ := hx
          rw [e2, Int.toNat_natCast] at hx
          rw [ej, hW 13 (by decide), ← r1] at hm
          by_cases hl : Vx (t + 2) j = lt
          · rw [if_neg (fun hh => hh hl)] at hx hm
            rw [e3, e4, ej1] at hx
            rw [hW 15 (by decide), hW 16 (by decide), r3, r4] at hm
            obtain ⟨y, Y, hy, hYB, hx⟩ := hx
            obtain ⟨w, Z, hw, hZB, hm⟩ := hm
            obtain ⟨k1, k2, k3, k4⟩ := q_run ht ⟨by omega, by omega, by rw [e0]; omega, by rw [e0]; omega⟩ htx (by rw [e1, hW 11 (by decide)]; exact r10) (Or.inr rfl) hRF hy hw
            have hV2 : ∀ i : Nat, i ≠ 69 → i ≠ 71 → Y i = Vx i := fun i i1 i2 => by
              by_cases h70 : i = 70
              · rw [h70, k3]; exact eL
              · exact (hYB.row (i := i) (fun k hk => by omega)).trans (hV i i1 i2)
            have hW2 : ∀ i : Nat, i ≠ 17 → Z i = Vm i := fun i hi => (k4 i hi).trans (hW i hi)
            have k2 := k2 rfl
            by_cases hy0 : y = 0
            · rw [if_pos hy0] at hx
              rw [if_neg (by omega)] at hm
              refine ih m (j + 1) Y Z hV2 hW2 ?_ ?_
              · rw [Int.natCast_add]; exact hx
              · rw [Int.natCast_add, ← Int.add_assoc]; exact hm
            · rw [if_neg hy0] at hx
              rw [if_pos (by omega)] at hm
              have f0 : Y t = Vx t := hV2 t t1.1.1 t1.1.2
              have f1 : Y (t + 1) = Vx (t + 1) := hV2 _ t1.2.1.1 t1.2.1.2
              have fL : Y 70 = Vx 70 := hV2 70 (by decide) (by decide)
              have hRF2 : RF Y Z := fun i hi => by rw [fL, hW2 18 (by decide)]; exact hF i hi
              rw [hV2 (t + 3) t1.2.2.2.1.1 t1.2.2.2.1.2, hV2 (t + 4) t1.2.2.2.2.1 t1.2.2.2.2.2] at hx
              rw [hW2 14 (by decide), hW2 15 (by decide), r2, r3] at hm
              obtain ⟨y2, Y2, hy2, hYB2, hx⟩ := hx
              obtain ⟨w2, Z2, hw2, hZB2, hm⟩ := hm
              obtain ⟨l1, l2, l3, l4⟩ := q_run ht ⟨by omega, by omega, by rw [f0]; omega, by rw [f0]; omega⟩ htx (by rw [f1, hW2 11 (by decide)]; exact r9) (Or.inl rfl) hRF2 hy2 hw2
              obtain ⟨-, -, hx⟩ := hx
              simp only [rtn, Prod.mk.injEq] at hx
              have hb : b = max 0 (min mo w2) ∧ X = Z2 := by
                by_cases g1 : 0 ≤ w2
                · rw [if_pos g1] at hm
                  by_cases g2 : w2 ≤ mo
                  · rw [if_pos g2] at hm
                    simp only [rtn, Prod.mk.injEq] at hm
                    exact ⟨by omega, hm.2⟩
                  · rw [if_neg g2] at hm
                    simp only [rtn, Prod.mk.injEq] at hm
                    exact ⟨by omega, hm.2⟩
                · rw [if_neg g1] at hm
                  simp only [rtn, Prod.mk.injEq] at hm
                  exact ⟨by omega, hm.2⟩
              refine ⟨by rw [hx.1, hb.1, l1], ?_, fun i hi => ?_⟩
              · rw [hx.2, l3]; exact fL
              · rw [hb.2]; exact (l4 i hi).trans (hW2 i hi)
          · rw [if_pos hl] at hx hm
            refine ih m (j + 1) V W hV hW ?_ ?_
            · rw [Int.natCast_add]; exact hx
            · rw [Int.natCast_add, ← Int.add_assoc]; exact hm
  refine key 16 72 0 Vx Vm (fun _ _ _ => rfl) (fun _ _ => rfl) hx ?_
  rw [show 14 * (tx : Int) + ((0 : Nat) : Int) = 14 * (tx : Int) by omega]
  exact hm
