-- the tape: bytes told, numbers read, emptied (own work)
theorem iB_255 (a : Int) : iAnd (iB a) 255 = iAnd a 255 := by
  unfold iAnd iB
  rw [Int32.ofInt_toInt]
  generalize Int32.ofInt a = w
  have e : w.toInt8.toInt32 &&& Int32.ofInt 255 = w &&& Int32.ofInt 255 := by
    apply Int32.toBitVec_inj.mp
    rw [Int32.toBitVec_and, Int32.toBitVec_and, Int8.toBitVec_toInt32, Int32.toBitVec_toInt8]
    apply BitVec.eq_of_getLsbD_eq
    intro i hi
    rw [BitVec.getLsbD_and, BitVec.getLsbD_and]
    have h8 : ∀ j : Nat, j < 32 → 8 ≤ j → (Int32.ofInt 255).toBitVec.getLsbD j = false := by decide
    by_cases g : i < 8
    · rw [BitVec.getLsbD_signExtend, BitVec.getLsbD_signExtend]
      simp [g, hi]
    · rw [h8 i hi (by omega), Bool.and_false, Bool.and_false]
  rw [e]
theorem q_add {x : Int} {V W J Jm U X : Nat → Nat → Int} {R Rm : Nat → Nat → Nat} (h : TP V W) (hl : W 0 4 ≤ 216) (hx : f_s_add x V J R U) (hm : f_m_types x W Jm Rm X) : TP U X ∧ X 0 4 = W 0 4 + 4 := by
  unfold f_s_add at hx
  unfold f_m_types at hm
  obtain ⟨bX, hbX, hx9⟩ := lop2_g hx
  obtain ⟨bM, hbM, hm9⟩ := lop2_g hm
  have key : ∀ (n m k : Nat) (V2 W2 : Nat → Nat → Int), TP V2 W2 → k ≤ 4 → W2 0 4 = W 0 4 + (4 - (k : Int)) → lop2 n bX (8 * (k : Int) - 8) V2 U → lop2 m bM ((k : Int) - 1) W2 X → TP U X ∧ X 0 4 = W 0 4 + 4 := by
    intro n
    induction n with
    | zero => intro m k V2 W2 _ _ _ hx; exact False.elim hx
    | succ n ih =>
      intro m k V2 W2 hT hk hw hx hm
      cases m with
      | zero => exact False.elim hm
      | succ m =>
        rw [lop2_s hbX] at hx
        rw [lop2_s hbM] at hm
        by_cases g : k = 0
        · rw [if_pos (by omega)] at hx hm
          have hx : U = V2 := hx
          have hm : X = W2 := hm
          subst hx hm
          exact ⟨hT, by omega⟩
        · rw [if_neg (by omega)] at hx hm
          obtain ⟨p, ep, -, hx⟩ := rdb_g hx
          obtain ⟨q, eq, -, hm⟩ := rdb_g hm
          obtain ⟨t1, t2, t3⟩ := hT
          have epq : p = q := by omega
          subst epq
          rw [if_neg (by omega)] at hx
          obtain ⟨z, ez, hx⟩ := rdb_g hx
          obtain ⟨z2, ez2, -, hx⟩ := rdb_g hx
          obtain ⟨V3, e3, hx⟩ := rdb_g hx
          obtain ⟨V4, e4, hx⟩ := rdb_g hx
          obtain ⟨y, ey, hm⟩ := rdb_g hm
          obtain ⟨y2, ey2, -, hm⟩ := rdb_g hm
          obtain ⟨W3, f3, hm⟩ := rdb_g hm
          obtain ⟨W4, f4, hm⟩ := rdb_g hm
          obtain ⟨j, rfl⟩ : ∃ j : Nat, k = j + 1 := ⟨k - 1, by omega⟩
          have eyz : y = z := by
            rw [← ey, ← ez]
            congr 1
            omega
          have eb : z2 = iAnd y2 255 := by rw [← ez2, ← ey2, iB_255, eyz]
          have w4 : W4 0 4 = p + 1 := by rw [← f4, up2_s]
          refine ih m j V4 W4 ⟨?_, ?_, ?_⟩ (by omega) (by rw [w4, ← eq, hw]; omega) ?_ ?_
          · rw [w4, ← e4, up2_s]
          · rw [w4]; omega
          · intro i hi
            rw [w4] at hi
            have x4 : V4 59 = up1 (V2 59) p.toNat z2 := by rw [← e4, up2_c _ _ (by decide), ← e3, up2_row]
            have m4 : W4 4 = up1 (W2 4) p.toNat y2 := by rw [← f4, up2_c _ _ (by decide), ← f3, up2_row]
            rw [x4, m4]
            by_cases gi : i = p.toNat
            · rw [gi, up1_at, up1_at]; exact eb
            · rw [up1_of gi, up1_of gi]
              exact t3 i (by omega)
          · rw [show 8 * (j : Int) - 8 = 8 * ((j + 1 : Nat) : Int) - 8 - 8 by omega]
            exact hx
          · rw [show (j : Int) - 1 = ((j + 1 : Nat) : Int) - 1 - 1 by omega]
            exact hm
  exact key _ _ 4 V W h (by omega) (by omega) hx9 hm9
theorem FBm.ks {m : Nat} {W X : Nat → Nat → Int} (h : FBm m W X) (ht : ∀ i : Nat, i < 17 → i = 1 ∨ i = 3 ∨ 11 ≤ i → m.testBit (64 + i) = false) : ∀ i : Nat, i = 1 ∨ i = 3 ∨ (11 ≤ i ∧ i ≤ 16) → X i = W i := fun i hi => h.rw i (by omega) (ht i (by omega) (by omega))
theorem WR.tape {R : Nat → Nat → Nat} {V W U X : Nat → Nat → Int} (h : WR R V W) (hT : TP U X) (hx : ∀ i : Nat, i ≠ 58 → i ≠ 59 → U i = V i) (hm : ∀ i : Nat, i = 1 ∨ i = 3 ∨ (11 ≤ i ∧ i ≤ 16) → X i = W i) (hm0 : X 0 53 = W 0 53) : WR R U X := by
  obtain ⟨⟨a1, a2⟩, a3, a4, ⟨a5, a6⟩, a7⟩ := h
  refine ⟨⟨a1.cg2 (fun i i1 i2 => hx i (by omega) (by omega)) (fun k _ => by rw [hm 1 (Or.inl rfl)]), by rw [hm 1 (Or.inl rfl)]; exact a2⟩, by rw [hx 0 (by decide) (by decide), hm0]; exact a3, ?_, ⟨a5.cg (fun i i1 i2 i3 => hx i (by omega) (by omega)) (fun i i1 i2 => hm i (by omega)), a6⟩, hT⟩
  rw [hx 0 (by decide) (by decide), hm 3 (Or.inr (Or.inl rfl))]
  rcases a4 with a4 | ⟨a4, a8⟩
  · exact Or.inl a4
  · exact Or.inr ⟨a4.cg2 (fun i i1 i2 => hx i (by omega) (by omega)) (fun _ _ => rfl), a8⟩
theorem w_feed {x1 x2 x3 x4 x5 a b : Int} {V V2 J W Jm X : Nat → Nat → Int} {R Rm : Nat → Nat → Nat} (h : WR R V W) (hx : f_s_feed x1 x2 x3 x4 x5 V J R (a, V2)) (hm : f_m_feed x1 x2 x3 x4 x5 W Jm Rm (b, X)) : a = b ∧ WR R V2 X := by
  unfold f_s_feed at hx
  unfold f_m_feed at hm
  have hT := h.2.2.2.2
  obtain ⟨z1, h1, -, hx⟩ := hx
  obtain ⟨y1, f1, -, hm⟩ := rdb_g hm
  have q1 : z1 = if y1 + 20 ≤ 220 then 1 else 0 := by
    unfold f_s_hasRoom at h1
    obtain ⟨z2, e2, h20, h1⟩ := rdb_g h1
    obtain ⟨z3, e3, h1⟩ := rdb_g h1
    rw [wr_id ⟨by omega, by omega⟩] at e3
    have e4 : z2 = y1 := by rw [← e2, ← f1]; exact hT.1
    by_cases g : 220 < z3
    · rw [if_pos g] at h1
      rw [if_neg (by omega)]
      exact h1
    · rw [if_neg g] at h1
      rw [if_pos (by omega)]
      exact h1
  by_cases g : y1 + 20 ≤ 220
  · rw [if_pos g] at q1 hm
    rw [if_pos (by omega)] at hx
    obtain ⟨U1, u1, F1, hx⟩ := hx
    obtain ⟨U2, u2, F2, hx⟩ := hx
    obtain ⟨U3, u3, F3, hx⟩ := hx
    obtain ⟨U4, u4, F4, hx⟩ := hx
    obtain ⟨U5, u5, F5, hx⟩ := hx
    obtain ⟨Y1, y1, G1, hm⟩ := hm
    obtain ⟨Y2, y2, G2, hm⟩ := hm
    obtain ⟨Y3, y3, G3, hm⟩ := hm
    obtain ⟨Y4, y4, G4, hm⟩ := hm
    obtain ⟨Y5, y5, G5, hm⟩ := hm
    obtain ⟨z, ez, -, hx⟩ := rdb_g hx
    obtain ⟨y, ey, -, hm⟩ := rdb_g hm
    simp only [rtn, Prod.mk.injEq] at hx hm
    obtain ⟨rfl, rfl⟩ := hx
    obtain ⟨rfl, rfl⟩ := hm
    obtain ⟨r1, l1⟩ := q_add hT (by omega) u1 y1
    obtain ⟨r2, l2⟩ := q_add r1 (by omega) u2 y2
    obtain ⟨r3, l3⟩ := q_add r2 (by omega) u3 y3
    obtain ⟨r4, l4⟩ := q_add r3 (by omega) u4 y4
    obtain ⟨r5, l5⟩ := q_add r4 (by omega) u5 y5
    refine ⟨by rw [← ez, ← ey]; exact r5.1, h.tape r5 (fun i i1 i2 => funext fun k => ?_) (fun i i1 => ?_) ?_⟩
    · rw [F5 i k (by omega), F4 i k (by omega), F3 i k (by omega), F2 i k (by omega), F1 i k (by omega)]
    · rw [G5.ks (by decide) i i1, G4.ks (by decide) i i1, G3.ks (by decide) i i1, G2.ks (by decide) i i1, G1.ks (by decide) i i1]
    · rw [G5.fl 53 (by decide), G4.fl 53 (by decide), G3.fl 53 (by decide), G2.fl 53 (by decide), G1.fl 53 (by decide)]
  · rw [if_neg g] at q1 hm
    rw [if_neg (by omega)] at hx
    exact h.same hx hm
