-- answers: alone (own work)
theorem q_fillA {V J U : Nat → Nat → Int} {R : Nat → Nat → Nat} (h : f_s_fillA 0 V J R U) : (∀ i : Nat, i ≠ 70 → U i = V i) ∧ ∀ k : Nat, k < 26 → U 70 k = 0 := by
  unfold f_s_fillA at h
  refine lop2_k (fun (z : Int) (V2 : Nat → Nat → Int) => 0 ≤ z ∧ (∀ i : Nat, i ≠ 70 → V2 i = V i) ∧ ∀ k : Nat, (k : Int) < z → V2 70 k = 0) (fun U : Nat → Nat → Int => (∀ i : Nat, i ≠ 70 → U i = V i) ∧ ∀ k : Nat, k < 26 → U 70 k = 0) (fun rc hrc z V2 hV r h => ?_) _ _ _ ⟨by omega, fun _ _ => rfl, fun k hk => by omega⟩ _ h
  obtain ⟨hz, h1, h2⟩ := hV
  by_cases g : 26 ≤ z
  · rw [if_pos g] at h
    have h : r = V2 := h
    rw [h]
    exact ⟨h1, fun k hk => h2 k (by omega)⟩
  · rw [if_neg g] at h
    obtain ⟨V3, e3, h⟩ := rdb_g h
    refine hrc _ _ ⟨by omega, fun i hi => by rw [← e3, up2_c _ _ hi]; exact h1 i hi, fun k hk => ?_⟩ _ h
    rw [← e3]
    by_cases e : k = z.toNat
    · rw [e, up2_s]
    · rw [up2_n _ _ (Or.inr e)]; exact h2 k (by omega)
theorem al_prices {n : Nat} {V W J Jm U X : Nat → Nat → Int} {R Rm : Nat → Nat → Nat} (hn : n ≤ 6) (h : WR R V W) (hx : f_s_setPrices 1 (n : Int) V J R U) (hm : f_m_laysAlone (n : Int) W Jm Rm X) : ∀ z : Nat, z < n → U 67 z = X 31 z ∧ U 68 z = X 32 z := by
  unfold f_s_setPrices at hx
  unfold f_m_laysAlone at hm
  obtain ⟨V1, k1, -, hx⟩ := hx
  obtain ⟨d, ed, hx⟩ := rdb_g hx
  obtain ⟨np, en, hx⟩ := rdb_g hx
  obtain ⟨V4, k4, -, hx⟩ := hx
  unfold f_s_ofNothing at k1
  obtain ⟨V1', k1', -, k1⟩ := k1
  have k1 : V1 = V1' := k1
  rw [← k1] at k1'
  obtain ⟨a1, a2⟩ := q_fillA k1'
  obtain ⟨b1, b2⟩ := q_onDay k4
  have o4 : ∀ i : Nat, i ≠ 70 → V4 i = V i := fun i hi => by rw [b2 i hi, a1 i hi]
  have hd : d = W 1 79 := by rw [← ed, a1 1 (by decide)]; exact h.1.1.2.2.2.1
  have hnp : np = cnt (W 1 78) := by rw [← en, a1 1 (by decide)]; exact h.1.1.2.2.1
  have v70 : ∀ k : Nat, k < 26 → k ≠ 15 → V4 70 k = if k = 3 then d else if k = 22 then iRem d 7 else if k = 13 then np else 0 := fun k hk _ => by
    rw [b1]
    unfold dyX
    by_cases e13 : k = 13
    · rw [e13, up1_at]; rfl
    · rw [up1_of e13]
      by_cases e22 : k = 22
      · rw [e22, up1_at]; rfl
      · rw [up1_of e22]
        by_cases e3 : k = 3
        · rw [e3, up1_at]; rfl
        · rw [up1_of e3, if_neg e3, if_neg e22, if_neg e13]
          exact a2 k hk
  obtain ⟨bX, hbX, hx9⟩ := lop2_g hx
  obtain ⟨bM, hbM, hm9⟩ := lop2_g hm
  have key : ∀ (a b z : Nat) (V2 W2 : Nat → Nat → Int), z ≤ n → (∀ k : Nat, k ≠ 15 → V2 70 k = V4 70 k) → (∀ i : Nat, i ≤ 66 ∨ 72 ≤ i → V2 i = V i) → (∀ i : Nat, i ≠ 17 → i ≠ 18 → i ≠ 31 → i ≠ 32 → W2 i = W i) → (∀ q : Nat, q < z → V2 67 q = W2 31 q ∧ V2 68 q = W2 32 q) → lop2 a bX (z : Int) V2 U → lop2 b bM (z : Int) W2 X → ∀ z : Nat, z < n → U 67 z = X 31 z ∧ U 68 z = X 32 z := by
    intro a
    induction a with
    | zero => intro b z V2 W2 _ _ _ _ _ hx; exact False.elim hx
    | succ a ih =>
      intro b z V2 W2 hz h70 hV hW hP hx hm
      cases b with
      | zero => exact False.elim hm
      | succ b =>
        rw [lop2_s hbX] at hx
        rw [lop2_s hbM] at hm
        by_cases g : (n : Int) ≤ z
        · rw [if_pos g] at hx hm
          have hx : U = V2 := hx
          have hm : X = W2 := hm
          rw [hx, hm]
          exact fun q hq => hP q (by omega)
        · rw [if_neg g, if_neg (by omega)] at hx
          rw [if_neg g] at hm
          obtain ⟨Va, ka, -, hx⟩ := hx
          obtain ⟨t, et, hx⟩ := rdb_g hx
          obtain ⟨p1, Vb, kb, Fb, -, hx⟩ := hx
          obtain ⟨Vc, ec, hx⟩ := rdb_g hx
          obtain ⟨p2, Vd, kd, Fd, -, hx⟩ := hx
          obtain ⟨Ve, ee, hx⟩ := rdb_g hx
          obtain ⟨Wa, ja, -, hm⟩ := hm
          obtain ⟨Wb, eb, hm⟩ := rdb_g hm
          obtain ⟨q1, Wc, jc, -, -, hm⟩ := hm
          obtain ⟨Wd, ed2, hm⟩ := rdb_g hm
          obtain ⟨q2, We, je, -, -, hm⟩ := hm
          obtain ⟨Wf, ef, hm⟩ := rdb_g hm
          have eVa := q_putA (c := 112) (k := 15) ka (by decide) rfl
          obtain ⟨f1, f2, f3, f4, f5⟩ := q_feels ja
          have va : ∀ i : Nat, i ≠ 70 → Va i = V2 i := fun i hi => by rw [eVa, up2_c _ _ hi]
          have va70 : Va 70 = up1 (V2 70) 15 (z : Int) := by rw [eVa, up2_row]
          have wb : ∀ i : Nat, i ≠ 18 → Wb i = W2 i := fun i hi => by rw [← eb, up2_c _ _ hi, f1 i hi]
          have wb18 : Wb 18 = up1 (Wa 18) 8 (z : Int) := by rw [← eb, up2_row]
          have w21 : W2 1 = W 1 := hW 1 (by decide) (by decide) (by decide) (by decide)
          have RFg : ∀ (P Q : Nat → Nat → Int), P 70 = Va 70 → Q 18 = Wb 18 → RF P Q := fun P Q e1 e2 => by
            have v : ∀ k : Nat, k < 26 → k ≠ 15 → Va 70 k = if k = 3 then d else if k = 22 then iRem d 7 else if k = 13 then np else 0 := fun k hk h15 => by
              rw [va70, up1_of h15, h70 k h15]; exact v70 k hk h15
            have w : ∀ k : Nat, k ≠ 8 → Wb 18 k = Wa 18 k := fun k hk => by rw [wb18, up1_of hk]
            intro i hi
            rw [e1, e2]
            rcases (show i = 0 ∨ i = 1 ∨ i = 2 ∨ i = 3 ∨ i = 4 ∨ i = 5 ∨ i = 6 ∨ i = 7 ∨ i = 8 ∨ i = 9 ∨ i = 10 ∨ i = 11 ∨ i = 12 by omega) with rfl | rfl | rfl | rfl | rfl | rfl | rfl | rfl | rfl | rfl | rfl | rfl | rfl
            · rw [w 0 (by decide), f2, w21, ← hd]; exact v 3 (by decide) (by decide)
            · rw [w 1 (by decide), f3, w21, ← hd]; exact v 22 (by decide) (by decide)
            · rw [w 2 (by decide), f5 2 (by decide) (by decide) (by decide)]; exact v 11 (by decide) (by decide)
            · rw [w 3 (by decide), f5 3 (by decide) (by decide) (by decide)]; exact v 14 (by decide) (by decide)
            · rw [w 4 (by decide), f5 4 (by decide) (by decide) (by decide)]; exact v 5 (by decide) (by decide)
            · rw [w 5 (by decide), f5 5 (by decide) (by decide) (by decide)]; exact v 18 (by decide) (by decide)
            · rw [w 6 (by decide), f5 6 (by decide) (by decide) (by decide)]; exact v 24 (by decide) (by decide)
            · rw [w 7 (by decide), f5 7 (by decide) (by decide) (by decide)]; exact v 25 (by decide) (by decide)
            · rw [wb18, up1_at, va70]; exact up1_at
            · rw [w 9 (by decide), f5 9 (by decide) (by decide) (by decide)]; exact v 19 (by decide) (by decide)
            · rw [w 10 (by decide), f4, w21, ← hnp]; exact v 13 (by decide) (by decide)
            · rw [w 11 (by decide), f5 11 (by decide) (by decide) (by decide)]; exact v 0 (by decide) (by decide)
            · rw [w 12 (by decide), f5 12 (by decide) (by decide) (by decide)]; exact v 16 (by decide) (by decide)
          have hT0 : RTx R V2 W2 := h.2.2.2.1.1.cg (fun i i1 i2 i3 => hV i (by omega)) (fun i i1 i2 => hW i (by omega) (by omega) (by omega) (by omega))
          have hTa : RTx R Va Wb := hT0.cg (fun i i1 i2 i3 => va i (by omega)) (fun i i1 i2 => wb i (by omega))
          rw [← et] at kb kd
          obtain ⟨x1, x2, x3⟩ := q_ask (tx := 0) hTa.1.1 (by decide) hTa.1.2 (RFg Va Wb rfl rfl) (by decide) kb jc
          have vb : ∀ i : Nat, i ≤ 68 ∨ 72 ≤ i → Vb i = Va i := fun i hi => funext fun k => Fb i k (by omega)
          have vc : ∀ i : Nat, i ≠ 67 → Vc i = Vb i := fun i hi => by rw [← ec, up2_c _ _ hi]
          have wd : ∀ i : Nat, i ≠ 31 → Wd i = Wc i := fun i hi => by rw [← ed2, up2_c _ _ hi]
          have hTc : RTx R Vc Wd := hTa.cg (fun i i1 i2 i3 => by rw [vc i (by omega), vb i (by omega)]) (fun i i1 i2 => by rw [wd i (by omega), x3 i (by omega)])
          obtain ⟨y1, y2, y3⟩ := q_ask (tx := 0) hTc.1.1 (by decide) hTc.1.2 (RFg Vc Wd (by rw [vc 70 (by decide), x2]) (by rw [wd 18 (by decide), x3 18 (by decide)])) (by decide) kd je
          have vd : ∀ i : Nat, i ≤ 68 ∨ 72 ≤ i → Vd i = Vc i := fun i hi => funext fun k => Fd i k (by omega)
          have ve : ∀ i : Nat, i ≠ 68 → Ve i = Vd i := fun i hi => by rw [← ee, up2_c _ _ hi]
          have wf : ∀ i : Nat, i ≠ 32 → Wf i = We i := fun i hi => by rw [← ef, up2_c _ _ hi]
          rw [Int.toNat_natCast] at ec ee ed2 ef
          have e67 : Ve 67 = up1 (V2 67) z p1 := by rw [ve 67 (by decide), vd 67 (by decide), ← ec, up2_row, vb 67 (by decide), va 67 (by decide)]
          have e68 : Ve 68 = up1 (V2 68) z p2 := by rw [← ee, up2_row, vd 68 (by decide), vc 68 (by decide), vb 68 (by decide), va 68 (by decide)]
          have e31 : Wf 31 = up1 (W2 31) z q1 := by rw [wf 31 (by decide), y3 31 (by decide), ← ed2, up2_row, x3 31 (by decide), wb 31 (by decide)]
          have e32 : Wf 32 = up1 (W2 32) z q2 := by rw [← ef, up2_row, y3 32 (by decide), wd 32 (by decide), x3 32 (by decide), wb 32 (by decide)]
          refine ih b (z + 1) Ve Wf (by omega) (fun k hk => ?_) (fun i hi => ?_) (fun i i1 i2 i3 i4 => ?_) (fun q hq => ?_) (by rw [Int.natCast_add]; exact hx) (by rw [Int.natCast_add]; exact hm)
          · rw [ve 70 (by decide), y2, vc 70 (by decide), x2, va70, up1_of hk]
            exact h70 k hk
          · rw [ve i (by omega), vd i (by omega), vc i (by omega), vb i (by omega), va i (by omega)]
            exact hV i hi
          · rw [wf i i4, y3 i i1, wd i i3, x3 i i1, wb i i2]
            exact hW i i1 i2 i3 i4
          · rw [e67, e68, e31, e32]
            by_cases e : q = z
            · rw [e, up1_at, up1_at, up1_at, up1_at]
              exact ⟨x1, y1⟩
            · rw [up1_of e, up1_of e, up1_of e, up1_of e]
              exact hP q (by omega)
  exact key _ _ 0 V4 W (by omega) (fun _ _ => rfl) (fun i hi => o4 i (by omega)) (fun _ _ _ _ _ => rfl) (fun q hq => absurd hq (by omega)) hx9 hm9
