section
-- reading: brackets of conditions, level by level (own work)
theorem KX.ent {t : Nat} {V : Nat → Nat → Int} {x y : Int} (ht : isTx t) : KX t V (up2 (up2 V 72 4 x) 72 2 y) := by
  have tn := tx_ne ht
  exact ⟨fun i i1 _ _ => by rw [up2_c _ _ i1, up2_c _ _ i1], fun k hk => by rw [up2_n _ _ (Or.inl tn.1.1), up2_n _ _ (Or.inl tn.1.1)], by rw [up2_n _ _ (Or.inr (by decide)), up2_n _ _ (Or.inr (by decide))]⟩
theorem KX.lev {t : Nat} {V : Nat → Nat → Int} {x y : Int} (ht : isTx t) : KX t V (up2 (up2 V 72 2 y) 72 4 x) := by
  have tn := tx_ne ht
  exact ⟨fun i i1 _ _ => by rw [up2_c _ _ i1, up2_c _ _ i1], fun k hk => by rw [up2_n _ _ (Or.inl tn.1.1), up2_n _ _ (Or.inl tn.1.1)], by rw [up2_n _ _ (Or.inr (by decide)), up2_n _ _ (Or.inr (by decide))]⟩
/-- a bracket is begun on both sides -/
theorem RS1.opn {t : Nat} {d s x : Int} {V V1 W : Nat → Nat → Int} (h : RS1 t d s V W []) (ht : isTx t) (hlt : W 0 5 < W 0 6) (e : V1 = up2 (up2 V 72 4 (d + 1)) 72 2 (V 72 2 + 1)) : RS1 t (d + 1) (s + 1) V1 (opnd W x) [] := by
  have tn := tx_ne ht
  obtain ⟨s1, s2, s3, s4, s5, s6⟩ := h
  have sp := s1.2.2.1
  have ov := opnd_v W x
  have hV1 : ∀ k : Nat, k ≠ 2 → k ≠ 4 → V1 72 k = V 72 k := fun k a1 a2 => by rw [e, up2_n _ _ (Or.inr a1), up2_n _ _ (Or.inr a2)]
  have hV1o : ∀ i : Nat, i ≠ 72 → V1 i = V i := fun i hi => by rw [e, up2_c _ _ hi, up2_c _ _ hi]
  refine ⟨s1.to (by rw [e, up2_s, ov.1, s1.1]) (hV1 3 (by decide) (by decide)) (opnd_0 W x (by decide) (by decide) (by decide)) (by rw [ov.1]; omega) (hV1o 58 (by decide)) (hV1o 59 (by decide)) (opnd_r W x (by decide) (by decide)), s2.to (by rw [hV1o t tn.1.1]) (hV1o _ tn.1.2) (opnd_0 W x (by decide) (by decide) (by decide)) (opnd_r W x (by decide) (by decide)), ?_, by rw [ov.2.2]; omega, by omega, ?_⟩
  · rw [e, up2_n _ _ (Or.inr (by decide)), up2_s]
  · rw [hV1o t tn.1.1, ov.1]; omega
theorem KM.opn {W : Nat → Nat → Int} {x : Int} (h : 0 ≤ W 0 11) : KM (W 0 11) W (opnd W x) := ⟨fun j hj => by rw [opnd_6, if_neg (by omega)], fun i i1 i2 i3 => opnd_r W x i1 i3, opnd_0 W x (by decide) (by decide) (by decide), opnd_0 W x (by decide) (by decide) (by decide), opnd_0 W x (by decide) (by decide) (by decide)⟩
theorem wtop_opn {W : Nat → Nat → Int} {x : Int} (h : 0 ≤ W 0 11) (hx : 0 ≤ x ∧ x ≤ 14) : wtop (opnd W x) = x := by
  have ov := opnd_v W x
  unfold wtop
  rw [ov.2.1, if_neg (by omega), show (W 0 11 + 1 - 1).toNat = (W 0 11).toNat by omega, opnd_6, if_pos rfl]
  exact (iDiv_p (by omega) (by decide)).trans (by omega)
theorem KM.cls {n : Int} {X : Nat → Nat → Int} : KM n X (clsd X) := ⟨fun j _ => by rw [clsd_r X (by decide)], fun i i1 _ _ => clsd_r X i1, clsd_0 X (by decide) (by decide) (by decide), clsd_0 X (by decide) (by decide) (by decide), clsd_0 X (by decide) (by decide) (by decide)⟩
theorem BRC.of {d : Int} {ent sm cnd : ((Nat → Nat → Int) → (Nat → Nat → Int) → (Nat → Nat → Nat) → Int × (Nat → Nat → Int) → Prop)} (hE : ENT d ent) (hF : LV 13 (d + 1) cnd) (hd : 0 ≤ d ∧ d ≤ 5) : BRC d (brkX d ent sm cnd) := by
  intro t s a V W J Jm U R Rm r ht hR hS h0 h40 hx hm
  have tn := tx_ne ht
  have hlt := sgn_lt (W := W) (by omega)
  have sp := hS.1.2.2.1
  have hs := hS.2.2.2.2.1
  unfold brkX at hx
  obtain ⟨z1, V1, h1, -, -, hx⟩ := hx
  obtain ⟨k1, k2⟩ := hE z1 V J V1 R (by have := hS.1.1; omega) h1
  rw [if_pos (by omega), if_neg (fun hh => hh rfl)] at hx
  obtain ⟨z5, V5, h5, -, z5r, hx⟩ := hx
  have S1 := hS.opn (x := 13) ht hlt k2
  have ov := opnd_v W 13
  have et := wtop_opn (x := 13) h0 (by decide)
  rcases hF t (s + 1) z5 V1 (opnd W 13) J Jm V5 R Rm r ht hR S1 ⟨by omega, by omega, by omega⟩ h5 hm with ⟨f1, X, P, f2, f3, f4, f5, f6, f7, f8, f9, f10, f11⟩ | hbad
  · rw [if_neg (by omega)] at hx
    obtain ⟨z8, V8, h8, -, z8r, hx⟩ := hx
    obtain ⟨u1, u2, u3, u4, u5, u6⟩ := f3
    have fp := u1.2.2.1
    rw [ov.2.1] at f4 f6
    rcases q_sign u1 h8 with ⟨g1, g2, g3⟩ | ⟨g1, g2, g3⟩
    · rw [if_pos (by omega)] at hx
      obtain ⟨V10, e10, hx⟩ := rdb_g hx
      simp only [rtn, Prod.mk.injEq] at hx
      have hltX := sgn_lt (W := X) (by omega)
      obtain ⟨Y, ⟨nY, hY⟩, hY2⟩ := f2.cls g1
      have e13 : iDiv (X 6 (W 0 11 + 1 - 1).toNat) 1048576 = 13 := by
        rw [show (W 0 11 + 1 - 1).toNat = (W 0 11).toNat by omega, f6.1 _ (by omega), opnd_6, if_pos rfl]
        exact (iDiv_p (by decide) (by decide)).trans (by decide)
      obtain ⟨y1, y2, y3, y4, y5⟩ := landed (t := t) (m := 12) (V := V5) (Or.inr rfl) (by omega) P nY X Y u2 f4 (fun p hp => by have := f5 p hp; omega) (by omega) (by rw [e13]; decide) (by rw [show (12 : Int) - 11 = 1 by decide]; exact hY)
      have y9 := y4 9 (by decide)
      have yp := y4 5 (by decide)
      have yl := y4 6 (by decide)
      obtain ⟨y10, y11⟩ := hY2 (by omega)
      have cv := clsd_v Y
      have hU : U = up2 (up2 V5 72 2 (X 0 5 + 1)) 72 4 d := by rw [hx.2, ← e10, g3]
      have KY : KM (W 0 11) W (clsd Y) := ((KM.opn h0).tr f6 (by omega)).tr (KM.tr (m := W 0 11) (X := Y) ⟨fun j _ => by rw [y3], fun i i1 i2 i3 => y5 i i1 i2, yl, y4 12 (by decide), y4 4 (by decide)⟩ KM.cls (Int.le_refl _)) (by omega)
      refine Or.inl ⟨hx.1, clsd Y, fun g => y10 (by omega), fun g => y11 (by omega), ⟨u1.to ?_ ?_ ?_ ?_ ?_ ?_ ?_, ?_, ?_, by omega, hs, ?_⟩, by omega, KY, ?_, ?_, ?_⟩
      · rw [hU, up2_n _ _ (Or.inr (by decide)), up2_s, cv.1, yp]
      · rw [hU, up2_n _ _ (Or.inr (by decide)), up2_n _ _ (Or.inr (by decide))]
      · rw [clsd_0 Y (by decide) (by decide) (by decide), yl]
      · rw [cv.1, yp]; omega
      · rw [hU, up2_c _ _ (by decide), up2_c _ _ (by decide)]
      · rw [hU, up2_c _ _ (by decide), up2_c _ _ (by decide)]
      · rw [clsd_r Y (by decide), y5 4 (by decide) (by decide)]
      · rw [hU]
        exact y1.ca.to (by rw [up2_n _ _ (Or.inl tn.1.1), up2_n _ _ (Or.inl tn.1.1)]) (by rw [up2_c _ _ tn.1.2, up2_c _ _ tn.1.2]) (clsd_0 Y (by decide) (by decide) (by decide)) (clsd_r Y (by decide))
      · rw [hU, up2_s]
      · rw [hU, up2_n _ _ (Or.inl tn.1.1), up2_n _ _ (Or.inl tn.1.1), cv.1, yp]; omega
      · rw [hU]
        exact ((show KX t V V1 by rw [k2]; exact KX.ent ht).tr f7).tr (KX.lev ht)
      · rw [cv.1, yp]; rw [ov.1] at f8; omega
      · rw [hU]
        exact f11.cg (by rw [k2, up2_n _ _ (Or.inl tn.1.1), up2_n _ _ (Or.inl tn.1.1)]) (by rw [k2, up2_c _ _ tn.1.2, up2_c _ _ tn.1.2]) (by rw [up2_n _ _ (Or.inl tn.1.1), up2_n _ _ (Or.inl tn.1.1)]) (by rw [up2_c _ _ tn.1.2, up2_c _ _ tn.1.2])
    · rw [if_neg (fun hh => hh g2)] at hx
      simp only [rtn, Prod.mk.injEq] at hx
      obtain ⟨X2, d3, d4⟩ := f2.bad g1 (f9 (by decide)) (f10 (by decide)) ⟨by omega, by omega⟩
      exact Or.inr ⟨hx.1, X2, d3, by rw [hx.2, g3, up2_s, d4]; exact ⟨rfl, by omega⟩⟩
  · rw [if_pos hbad.1] at hx
    simp only [rtn, Prod.mk.injEq] at hx
    exact Or.inr ⟨hx.1, by obtain ⟨-, X, x1, x2⟩ := hbad; exact ⟨X, x1, by rw [hx.2]; exact x2⟩⟩
theorem notd_v (W : Nat → Nat → Int) : notd W 0 9 = W 0 9 - 1 ∧ notd W 0 10 = W 0 10 + 1 ∧ notd W 0 11 = W 0 11 - 1 ∧ (∀ k : Nat, k ≠ 9 → k ≠ 10 → k ≠ 11 → notd W 0 k = W 0 k) ∧ (∀ k : Nat, notd W 5 k = if k = (W 0 10).toNat then 1048576 * 10 + 0 else W 5 k) ∧ ∀ i : Nat, i ≠ 0 → i ≠ 5 → notd W i = W i := by
  unfold notd
  refine ⟨up2_s _ _ _ _, ?_, ?_, fun k k1 k2 k3 => ?_, fun k => ?_, fun i i1 i2 => ?_⟩
  · rw [up2_n _ _ (Or.inr (by decide)), clo_10]
  · rw [up2_n _ _ (Or.inr (by decide)), clo_11]
  · rw [up2_n _ _ (Or.inr k1), clo_0 W 10 k2 k3]
  · rw [up2_n _ _ (Or.inl (by decide)), clo_5]
  · rw [up2_c _ _ i1, clo_r W 10 i1 i2]
theorem PIES.cmp {d a : Int} {sm : ((Nat → Nat → Int) → (Nat → Nat → Int) → (Nat → Nat → Nat) → Int × (Nat → Nat → Int) → Prop)} (hF : SUMS d sm) (hd : 1 ≤ d ∧ d ≤ 6) {t : Nat} {s : Int} {V W J Jm U : Nat → Nat → Int} {R Rm : Nat → Nat → Nat} {r : Int × (Nat → Nat → Int)} (ht : isTx t) (hR : R 72 1 = t) (hS : RS1 t d s V W []) (hT : TOP 10 W) (h40 : ¬ sgnZ W = 40) (h33 : ¬ sgnZ W = 33) (hx : cmpX sm V J R (a, U)) (hm : RCz Jm Rm W r) :
    (a = 1 ∧ ∃ X : Nat → Nat → Int, RE Jm Rm X r ∧ RS1 t d s U X [] ∧ X 0 11 = W 0 11 ∧ KM (W 0 11) W X ∧ KX t V U ∧ W 0 5 < X 0 5 ∧ CR t V U) ∨ BAD a U r := by
  obtain ⟨q, Y, hq, -, m1, m2⟩ := hm.cmp h33 h40
  rcases CMPS.of hF hd ht hR hS hT hx hq with ⟨f1, f2, X, ⟨n, f3⟩, f4⟩ | ⟨f1, f2, f3⟩
  · exact Or.inl ⟨f1, X, ⟨n, Y, f3, m2 f2⟩, f4⟩
  · exact Or.inr ⟨f1, Y, m1 f2, f3⟩
theorem PIES.of {d : Int} {ent sm pie : ((Nat → Nat → Int) → (Nat → Nat → Int) → (Nat → Nat → Nat) → Int × (Nat → Nat → Int) → Prop)} {brk : Int → ((Nat → Nat → Int) → (Nat → Nat → Int) → (Nat → Nat → Nat) → Int × (Nat → Nat → Int) → Prop)} (hE : ENT d ent) (hF : SUMS d sm) (hP : PIES (d + 1) pie) (hB : BRC d brk) (hd : 1 ≤ d ∧ d ≤ 5) : PIES d (pieX d ent (cmpX sm) pie brk) := by
  intro t s a V W J Jm U R Rm r ht hR hS hT hx hm
  have tn := tx_ne ht
  have sp := hS.1.2.2.1
  have s4 := hS.2.2.2.1
  have hs := hS.2.2.2.2.1
  have hb := hT.1
  unfold pieX at hx
  obtain ⟨c, hc, hx⟩ := hx
  have hc := q_peek hS.1 hc
  subst hc
  by_cases g40 : sgnZ W = 40
  · rw [if_neg (fun hh => hh g40)] at hx
    obtain ⟨z, Y, hY, -, -, hx⟩ := hx
    simp only [rtn, Prod.mk.injEq] at hx
    obtain ⟨rfl, rfl⟩ := hx
    rcases hm.opn (Or.inr g40) (by omega) with ⟨o1, -⟩ | ⟨-, -, o2⟩
    · omega
    · rcases hB t s a V W J Jm U R Rm r ht hR hS (by omega) g40 hY (o2 g40) with ⟨f1, X, -, f3, f4⟩ | hb
      · exact Or.inl ⟨f1, X, f3 (by omega), f4⟩
      · exact Or.inr hb
  · rw [if_pos g40] at hx
    obtain ⟨c2, hc2, hx⟩ := hx
    have hc2 := q_peek hS.1 hc2
    subst hc2
    by_cases g33 : sgnZ W = 33
    · rw [if_pos g33] at hx
      have hlt := sgn_lt (W := W) (by omega)
      obtain ⟨z5, V5, h5, -, -, hx⟩ := hx
      obtain ⟨k1, k2⟩ := hE z5 V J V5 R (by have := hS.1.1; omega) h5
      rw [if_neg (by omega)] at hx
      obtain ⟨z8, V8, h8, -, z8r, hx⟩ := hx
      rcases hm.opn (Or.inl g33) (by omega) with ⟨o1, -⟩ | ⟨-, o2, -⟩
      · omega
      · have S1 := hS.opn (x := 10) ht hlt k2
        have ov := opnd_v W 10
        have et := wtop_opn (W := W) (x := 10) (by omega) (by decide)
        rcases hP t (s + 1) z8 V5 (opnd W 10) J Jm V8 R Rm r ht hR S1 ⟨by omega, by omega, by omega⟩ h8 (o2 g33) with ⟨f1, X, f2, f3, f4, f5, f6, f7, f8⟩ | hbad
        · rw [if_pos (by omega)] at hx
          obtain ⟨V11, e11, hx⟩ := rdb_g hx
          obtain ⟨t0, et0, hx⟩ := rdb_g hx
          rw [hR] at et0
          subst et0
          obtain ⟨V13, h13, -, hx⟩ := hx
          simp only [rtn, Prod.mk.injEq] at hx
          have ew := wtop_km f5 f4 (by omega)
          obtain ⟨u1, u2, u3, u4, u5, u6⟩ := f3
          have up := u1.2.2.1
          have ul : V8 t 1 = X 0 10 := by have := u2.2.1; simpa using this
          have ul0 := u2.1
          have eV11t : V11 t = V8 t := by rw [← e11, up2_c _ _ tn.1.1]
          have eV11s : V11 (t + 1) = V8 (t + 1) := by rw [← e11, up2_c _ _ tn.1.2]
          have hp13 := q_put h13 (by decide) (by decide) (by rw [eV11t]; omega)
          rw [eV11t] at hp13
          have hRE := f2.not (by omega) (by omega)
          obtain ⟨v1, v2, v3, v4, v5, v6⟩ := notd_v X
          have hU : U = up2 (up2 V11 (t + 1) (V8 t 1).toNat (10 + 16 * 0)) t 1 (V8 t 1 + 1) := by rw [hx.2, hp13]
          have U72 : ∀ k : Nat, k ≠ 4 → U 72 k = V8 72 k := fun k hk => by rw [hU, up2_n _ _ (Or.inl tn.1.1.symm), up2_n _ _ (Or.inl tn.1.2.symm), ← e11, up2_n _ _ (Or.inr hk)]
          have Uo : ∀ i : Nat, i ≠ 72 → i ≠ t → i ≠ t + 1 → U i = V8 i := fun i i1 i2 i3 => by rw [hU, up2_c _ _ i2, up2_c _ _ i3, ← e11, up2_c _ _ i1]
          rw [ov.2.1] at f4 f5
          refine Or.inl ⟨hx.1, notd X, hRE, ⟨u1.to ?_ (U72 3 (by decide)) (v4 6 (by decide) (by decide) (by decide)) (by rw [v4 5 (by decide) (by decide) (by decide)]; omega) (Uo 58 (by decide) tn.2.1.symm tn.2.2.2.1.symm) (Uo 59 (by decide) tn.2.2.1.symm tn.2.2.2.2.symm) (v6 4 (by decide) (by decide)), ?_, ?_, by omega, hs, ?_⟩, by omega, ?_, ?_, ?_, ?_⟩
          · rw [U72 2 (by decide), v4 5 (by decide) (by decide) (by decide)]; exact u1.1
          · have C := (u2.to (V2 := V11) (W2 := X) (by rw [eV11t]) eV11s rfl rfl).both (x := 10 + 16 * 0) (w := 1048576 * 10 + 0) (W2 := notd X) (by rw [show (10 : Int) + 16 * 0 = 10 by decide]; exact stw_op (by decide)) v2 v5
            rw [eV11t] at C
            rw [hU]; exact C
          · rw [hU, up2_n _ _ (Or.inl tn.1.1.symm), up2_n _ _ (Or.inl tn.1.2.symm), ← e11, up2_s]
          · rw [hU, up2_s, v4 5 (by decide) (by decide) (by decide)]; omega
          · exact ((KM.opn (by omega)).tr f5 (by omega)).tr (m := W 0 11) ⟨fun j _ => by rw [v6 6 (by decide) (by decide)], fun i i1 i2 i3 => v6 i i1 i2, v4 6 (by decide) (by decide) (by decide), v4 12 (by decide) (by decide) (by decide), v4 4 (by decide) (by decide) (by decide)⟩ (Int.le_refl _)
          · exact ((show KX t V V5 by rw [k2]; exact KX.ent ht).tr f6).tr ⟨Uo, fun k hk => by rw [hU, up2_n _ _ (Or.inr hk), up2_n _ _ (Or.inl (by omega)), eV11t], U72 3 (by decide)⟩
          · rw [v4 5 (by decide) (by decide) (by decide)]; rw [ov.1] at f7; omega
          · have C := (f8.cg (V := V) (U := V11) (by rw [k2, up2_n _ _ (Or.inl tn.1.1), up2_n _ _ (Or.inl tn.1.1)]) (by rw [k2, up2_c _ _ tn.1.2, up2_c _ _ tn.1.2]) (by rw [eV11t]) eV11s).not
            rw [eV11t] at C
            rw [hU]; exact C
        · rw [if_neg (by have := hbad.1; omega)] at hx
          simp only [rtn, Prod.mk.injEq] at hx
          obtain ⟨rfl, rfl⟩ := hx
          exact Or.inr ⟨rfl, hbad.2⟩
    · rw [if_neg g33] at hx
      obtain ⟨z, Y, hY, -, -, hx⟩ := hx
      simp only [rtn, Prod.mk.injEq] at hx
      obtain ⟨rfl, rfl⟩ := hx
      exact PIES.cmp hF ⟨hd.1, by omega⟩ ht hR hS hT g40 g33 hY hm
theorem pies6 : PIES 6 f_r_piece6 := by
  intro t s a V W J Jm U R Rm r ht hR hS hT hx hm
  have sp := hS.1.2.2.1
  have s4 := hS.2.2.2.1
  have e1 := hS.1.1
  have five : ∀ (z : Int) (Y : Nat → Nat → Int), f_r_enter6 V J R (z, Y) → z = 0 ∧ Y 72 5 = -5000 - W 0 5 := fun z Y h => by
    unfold f_r_enter6 at h
    obtain ⟨z2, V2, h2, -, -, h⟩ := h
    simp only [rtn, Prod.mk.injEq] at h
    obtain ⟨q1, q2⟩ := q_fail h2 (by decide) (by omega)
    refine ⟨h.1.trans q1, ?_⟩
    rw [h.2, q2, up2_s, e1]
    omega
  unfold f_r_piece6 at hx
  obtain ⟨c, hc, hx⟩ := hx
  have hc := q_peek hS.1 hc
  subst hc
  by_cases g40 : sgnZ W = 40
  · rw [if_neg (fun hh => hh g40)] at hx
    obtain ⟨z, Y, hY, -, -, hx⟩ := hx
    simp only [rtn, Prod.mk.injEq] at hx
    unfold f_r_bracket6 at hY
    obtain ⟨z1, V1, h1, -, -, hY⟩ := hY
    simp only [rtn, Prod.mk.injEq] at hY
    obtain ⟨q1, q2⟩ := five z1 V1 h1
    rcases hm.opn (Or.inr g40) (by omega) with ⟨-, X, o2, o3⟩ | ⟨o1, -⟩
    · exact Or.inr ⟨hx.1.trans hY.1, X, o2, by rw [hx.2, hY.2, q2, o3]; exact ⟨rfl, by omega⟩⟩
    · exact absurd s4 o1
  · rw [if_pos g40] at hx
    obtain ⟨c2, hc2, hx⟩ := hx
    have hc2 := q_peek hS.1 hc2
    subst hc2
    by_cases g33 : sgnZ W = 33
    · rw [if_pos g33] at hx
      obtain ⟨z, Y, hY, -, -, hx⟩ := hx
      simp only [rtn, Prod.mk.injEq] at hx
      obtain ⟨q1, q2⟩ := five z Y hY
      rcases hm.opn (Or.inl g33) (by omega) with ⟨-, X, o2, o3⟩ | ⟨o1, -⟩
      · exact Or.inr ⟨hx.1, X, o2, by rw [hx.2, q2, o3]; exact ⟨rfl, by omega⟩⟩
      · exact absurd s4 o1
    · rw [if_neg g33] at hx
      obtain ⟨z, Y, hY, -, -, hx⟩ := hx
      simp only [rtn, Prod.mk.injEq] at hx
      obtain ⟨rfl, rfl⟩ := hx
      rw [fx_cmp6] at hY
      exact PIES.cmp sums6 (by decide) ht hR hS hT g40 g33 hY hm
theorem cond_of {d : Int} {pie : ((Nat → Nat → Int) → (Nat → Nat → Int) → (Nat → Nat → Nat) → Int × (Nat → Nat → Int) → Prop)} (h : PIES d pie) (hd : 0 ≤ d ∧ d ≤ 6) : LV 13 d (prtX 124 12 (prtX 38 11 pie)) := by
  have h1 : LV 12 d (prtX 38 11 pie) := LV.of (m := 11) (c := 38) h.lv (Or.inl ⟨rfl, rfl⟩) hd
  exact LV.of (m := 12) (c := 124) h1 (Or.inr ⟨rfl, rfl⟩) hd
theorem cond6 : LV 13 6 f_r_condition6 := by rw [fx_cond6, fx_part6]; exact cond_of pies6 (by decide)
theorem brc5 : BRC 5 f_r_bracket5 := by rw [fx_brk5]; exact BRC.of ent5 cond6 (by decide)
theorem pies5 : PIES 5 f_r_piece5 := by rw [fx_pie5, fx_cmp5]; exact PIES.of ent5 sums5 pies6 brc5 (by decide)
theorem cond5 : LV 13 5 f_r_condition5 := by rw [fx_cond5, fx_part5]; exact cond_of pies5 (by decide)
theorem brc4 : BRC 4 f_r_bracket4 := by rw [fx_brk4]; exact BRC.of ent4 cond5 (by decide)
theorem pies4 : PIES 4 f_r_piece4 := by rw [fx_pie4, fx_cmp4]; exact PIES.of ent4 sums4 pies5 brc4 (by decide)
theorem cond4 : LV 13 4 f_r_condition4 := by rw [fx_cond4, fx_part4]; exact cond_of pies4 (by decide)
theorem brc3 : BRC 3 f_r_bracket3 := by rw [fx_brk3]; exact BRC.of ent3 cond4 (by decide)
theorem pies3 : PIES 3 f_r_piece3 := by rw [fx_pie3, fx_cmp3]; exact PIES.of ent3 sums3 pies4 brc3 (by decide)
theorem cond3 : LV 13 3 f_r_condition3 := by rw [fx_cond3, fx_part3]; exact cond_of pies3 (by decide)
theorem brc2 : BRC 2 f_r_bracket2 := by rw [fx_brk2]; exact BRC.of ent2 cond3 (by decide)
theorem pies2 : PIES 2 f_r_piece2 := by rw [fx_pie2, fx_cmp2]; exact PIES.of ent2 sums2 pies3 brc2 (by decide)
theorem cond2 : LV 13 2 f_r_condition2 := by rw [fx_cond2, fx_part2]; exact cond_of pies2 (by decide)
theorem brc1 : BRC 1 f_r_bracket1 := by rw [fx_brk1]; exact BRC.of ent1 cond2 (by decide)
theorem pies1 : PIES 1 f_r_piece1 := by rw [fx_pie1, fx_cmp1]; exact PIES.of ent1 sums1 pies2 brc1 (by decide)
theorem cond1 : LV 13 1 f_r_condition1 := by rw [fx_cond1, fx_part1]; exact cond_of pies1 (by decide)
theorem brc0 : BRC 0 f_r_bracket0 := by rw [fx_brk0]; exact BRC.of ent0 cond1 (by decide)
end
section
-- reading: a clause (own work)
def isK (x c : Int) : Prop := (x ≤ 0 ∧ (c = 101 ∨ c = 104 ∨ c = 99 ∨ c = 98)) ∨ (0 < x ∧ c = 103)
theorem q_isClause {c x r : Int} (h : f_m_isClause c x r) : Sq r (isK x c) := by
  unfold f_m_isClause at h
  unfold Sq isK
  by_cases g : x ≤ 0
  · rw [if_pos g] at h
    by_cases g1 : c = 101
    · rw [if_pos g1] at h; have h : r = 1 := h; omega
    · rw [if_neg g1] at h
      by_cases g2 : c = 104
      · rw [if_pos g2] at h; have h : r = 1 := h; omega
      · rw [if_neg g2] at h
        by_cases g3 : c = 99
        · rw [if_pos g3] at h; have h : r = 1 := h; omega
        · rw [if_neg g3] at h
          by_cases g4 : c = 98
          · rw [if_neg (fun hh => hh g4)] at h; have h : r = 1 := h; omega
          · rw [if_pos g4] at h; have h : r = 0 := h; omega
  · rw [if_neg g] at h
    by_cases g1 : c = 103
    · rw [if_neg (fun hh => hh g1)] at h; have h : r = 1 := h; omega
    · rw [if_pos g1] at h; have h : r = 0 := h; omega
theorem q_kinds {k : Nat} {x c r : Int} (hk : (k = 0 ∧ x = 0) ∨ (k = 2 ∧ 0 < x)) (hc : 0 ≤ c ∧ c ≤ 255) (h : f_j_indexOf k c r) : (0 ≤ r ∧ isK x c) ∨ (r < 0 ∧ ¬ isK x c) := by
  unfold isK
  rcases hk with ⟨rfl, rfl⟩ | ⟨rfl, h0⟩
  · rcases q_indexOf (by decide) hc h with ⟨h1, j, hj, h2⟩ | ⟨h1, h2⟩
    · refine Or.inl ⟨h1, Or.inl ⟨by decide, ?_⟩⟩
      have hj : j < 4 := hj
      rcases (show j = 0 ∨ j = 1 ∨ j = 2 ∨ j = 3 by omega) with rfl | rfl | rfl | rfl <;> subst h2 <;> decide
    · refine Or.inr ⟨by omega, fun hl => ?_⟩
      rcases hl with ⟨-, rfl | rfl | rfl | rfl⟩ | ⟨hl, -⟩
      · exact h2 0 (by decide) (by decide)
      · exact h2 1 (by decide) (by decide)
      · exact h2 2 (by decide) (by decide)
      · exact h2 3 (by decide) (by decide)
      · omega
  · rcases q_indexOf (by decide) hc h with ⟨h1, j, hj, h2⟩ | ⟨h1, h2⟩
    · refine Or.inl ⟨h1, Or.inr ⟨h0, ?_⟩⟩
      have hj : j < 1 := hj
      rcases (show j = 0 by omega) with rfl
      subst h2
      decide
    · refine Or.inr ⟨by omega, fun hl => ?_⟩
      rcases hl with ⟨hl, -⟩ | ⟨-, rfl⟩
      · omega
      · exact h2 0 (by decide) (by decide)
/-- clause j, read on both sides -/
def CLj (t : Nat) (V W : Nat → Nat → Int) (j : Nat) : Prop := V (t + 2) j = W 7 j ∧ V (t + 3) j = W 8 j ∧ V (t + 4) j = W 9 j ∧ V (t + 3) (j + 1) = W 10 j ∧ V (t + 3) (j + 1) ≤ V t 1 ∧ SG (V (t + 1)) (V (t + 3) j) (V (t + 4) j) 15 ∧ CG (V (t + 1)) (V (t + 4) j) (V (t + 3) (j + 1))
/-- n clauses are read on both sides -/
def CL (t : Nat) (V W : Nat → Nat → Int) (n : Nat) : Prop := PP V W ∧ CA t V W [] ∧ V 72 4 = 0 ∧ V t 1 ≤ W 0 5 ∧ V t 5 = n ∧ W 0 12 = n ∧ n ≤ 14 ∧ (n = 0 ∨ V (t + 3) n = V t 1) ∧ ∀ j : Nat, j < n → CLj t V W j
theorem CLj.cg {t j : Nat} {V W U X : Nat → Nat → Int} (h : CLj t V W j) (e2 : U (t + 2) j = V (t + 2) j) (e3 : U (t + 3) j = V (t + 3) j) (e4 : U (t + 4) j = V (t + 4) j) (e5 : U (t + 3) (j + 1) = V (t + 3) (j + 1)) (e1 : ∀ k : Nat, (k : Int) < V t 1 → U (t + 1) k = V (t + 1) k) (el : V t 1 ≤ U t 1) (m7 : X 7 j = W 7 j) (m8 : X 8 j = W 8 j) (m9 : X 9 j = W 9 j) (m10 : X 10 j = W 10 j) : CLj t U X j := by
  obtain ⟨h1, h2, h3, h4, h5, h6, h7⟩ := h
  have l6 := h6.2.1
  have l7 := h7.2.1
  unfold CLj
  rw [e2, e3, e4, e5, m7, m8, m9, m10]
  exact ⟨h1, h2, h3, h4, by omega, h6.cg fun k a b => e1 k (by omega), h7.cg fun k a b => e1 k (by omega)⟩
theorem q_condition {a q : Int} {t : Nat} {s : Int} {V W J Jm U X : Nat → Nat → Int} {R Rm : Nat → Nat → Nat} (ht : isTx t) (hR : R 72 1 = t) (hS : RS1 t 0 s V W []) (h11 : W 0 11 = 0) (h40 : sgnZ W = 40) (hx : f_r_bracket0 41 V J R (a, U)) (hm : f_m_readsCondition W Jm Rm (q, X)) :
    (a = 1 ∧ q = 1 ∧ RS1 t 0 s U X [] ∧ KM 0 W X ∧ KX t V U ∧ W 0 5 < X 0 5 ∧ CR t V U) ∨ (a = 0 ∧ q = 0 ∧ FLT (U 72 5) (X 0 7)) := by
  unfold f_m_readsCondition at hm
  obtain ⟨z1, -, -, hm⟩ := rdb_g hm
  obtain ⟨z2, -, -, hm⟩ := rdb_g hm
  obtain ⟨z3, -, -, hm⟩ := rdb_g hm
  obtain ⟨z4, -, -, hm⟩ := rdb_g hm
  obtain ⟨c, hc, -, hm⟩ := hm
  have hc := q_here hc
  rw [if_pos (by omega)] at hm
  obtain ⟨V7, e7, hm⟩ := rdb_g hm
  obtain ⟨V8, e8, hm⟩ := rdb_g hm
  obtain ⟨y, Y, hy, -, -, hm⟩ := hm
  have h9 := hS.2.2.2.1
  have e78 : V8 = W := by
    rw [← e8, ← e7, up2_same h9, up2_same h11]
  rw [e78] at hy
  rcases q_opens hy (by omega) with ⟨k1, -⟩ | ⟨-, k2, k3⟩
  · omega
  · rw [if_pos (by omega), k3] at hm
    have hRC : RCz Jm Rm (opnd W 13) (q, X) := ⟨_, hm⟩
    rcases brc0 t s a V W J Jm U R Rm (q, X) ht hR hS (by omega) h40 hx hRC with ⟨f1, Z, f2, -, f4, f5, f6, f7, f8, f9⟩ | ⟨f1, Z, f2, f3⟩
    · have e := f2 h11
      simp only [Prod.mk.injEq] at e
      obtain ⟨e1, e2⟩ := e
      subst e2
      exact Or.inl ⟨f1, e1, f4, by rw [← h11]; exact f6, f7, f8, f9⟩
    · simp only [Prod.mk.injEq] at f2
      exact Or.inr ⟨f1, f2.1, by rw [f2.2]; exact f3⟩
theorem q_clause {k1 t n : Nat} {x1 a q : Int} {V W J Jm U X : Nat → Nat → Int} {R Rm : Nat → Nat → Nat} (hk : (k1 = 0 ∧ x1 = 0) ∨ (k1 = 2 ∧ 0 < x1)) (ht : isTx t) (hR : R 72 1 = t) (hC : CL t V W n) (hx : f_r_clause k1 V J R (a, U)) (hm : f_m_readsClause x1 W Jm Rm (q, X)) :
    (a = 1 ∧ q = 1 ∧ n < 14 ∧ CL t U X (n + 1) ∧ W 0 5 < X 0 5 ∧ X 0 6 = W 0 6 ∧ X 0 4 = W 0 4 ∧ (∀ i : Nat, 11 ≤ i → X i = W i) ∧ X 4 = W 4) ∨ (a = 0 ∧ q = 0 ∧ FLT (U 72 5) (X 0 7)) := by
  have tn := tx_ne ht
  obtain ⟨c1, c2, c3, c4, c5, c6, c7, c8, c9⟩ := hC
  have cp := c1.2.2.1
  have cl : V t 1 = W 0 10 := by have := c2.2.1; simpa using this
  have cl0 := c2.1
  have sr := sgn_r W
  unfold f_r_clause at hx
  unfold f_m_readsClause at hm
  obtain ⟨y1, ey1, -, hm⟩ := rdb_g hm
  obtain ⟨y2, -, -, hm⟩ := rdb_g hm
  obtain ⟨y3, ey3, -, hm⟩ := rdb_g hm
  obtain ⟨y4, ey4, -, hm⟩ := rdb_g hm
  obtain ⟨y5, hy5, -, hm⟩ := hm
  have hy5 := q_here hy5
  subst hy5
  obtain ⟨y6, hy6, -, hm⟩ := hm
  have hy6 := q_isClause hy6
  obtain ⟨z1, hz1, hx⟩ := hx
  have hz1 := q_peek c1 hz1
  subst hz1
  have wrong : ∀ (f : Int) (Y : Nat → Nat → Int) (z : Int), (0 ≤ f ∧ f ≤ 9) → f_m_wrongAt f y1 W Jm Rm (z, Y) → (q, X) = (z, Y) → q = 0 ∧ X 0 7 = -1000 * f - W 0 5 := fun f Y z hf h e => by
    simp only [Prod.mk.injEq] at e
    obtain ⟨k3, k4⟩ := q_wrong h hf (by omega)
    exact ⟨e.1.trans k3, by rw [e.2, k4, up2_s, ← ey1]⟩
  have fail : ∀ (f : Int) (Y : Nat → Nat → Int) (z : Int), (0 ≤ f ∧ f ≤ 9) → f_r_fail f V J R (z, Y) → (a, U) = (z, Y) → a = 0 ∧ U 72 5 = -1000 * f - W 0 5 := fun f Y z hf h e => by
    simp only [Prod.mk.injEq] at e
    obtain ⟨k3, k4⟩ := q_fail h hf (by have := c1.1; omega)
    exact ⟨e.1.trans k3, by rw [e.2, k4, up2_s, c1.1]⟩
  by_cases gK : isK x1 (sgnZ W)
  · rw [if_pos (show ¬ y6 = 0 from fun hh => hy6.off hh gK)] at hm
    have hneg : ¬ sgnZ W < 0 := by unfold isK at gK; omega
    rw [if_neg hneg, iC_c ⟨by omega, by omega⟩] at hx
    obtain ⟨z4, ez4, -, hx⟩ := rdb_g hx
    subst ez4
    obtain ⟨z5, hz5, hx⟩ := hx
    rcases q_kinds hk ⟨by omega, by omega⟩ hz5 with ⟨g1, -⟩ | ⟨-, g1⟩
    · rw [if_pos g1] at hx
      obtain ⟨t0, et0, hx⟩ := rdb_g hx
      rw [hR] at et0
      subst et0
      obtain ⟨z8, ez8, -, hx⟩ := rdb_g hx
      have hlt := sgn_lt (W := W) (by omega)
      by_cases g14 : n = 14
      · rw [if_neg (by omega)] at hx
        rw [if_neg (fun hh => hh (by omega))] at hm
        obtain ⟨z, Z, hZ, -, -, hx⟩ := hx
        obtain ⟨y, Y, hY, -, -, hm⟩ := hm
        obtain ⟨w1, w2⟩ := wrong 4 Y y (by decide) hY hm
        obtain ⟨w3, w4⟩ := fail 4 Z z (by decide) hZ hx
        exact Or.inr ⟨w3, w1, by rw [w4, w2]; exact ⟨rfl, by omega⟩⟩
      · rw [if_pos (by omega)] at hx
        rw [if_pos (by omega)] at hm
        obtain ⟨z10, ez10, -, hx⟩ := rdb_g hx
        subst ez10
        obtain ⟨V11, h11, -, hx⟩ := hx
        obtain ⟨z12, ez12, hx⟩ := rdb_g hx
        obtain ⟨z13, ez13, hx⟩ := rdb_g hx
        obtain ⟨V14, eV14, hx⟩ := rdb_g hx
        obtain ⟨z15, V15, h15, -, z15r, hx⟩ := hx
        obtain ⟨W10, eW10, hm⟩ := rdb_g hm
        obtain ⟨W11, eW11, hm⟩ := rdb_g hm
        obtain ⟨W12, eW12, hm⟩ := rdb_g hm
        obtain ⟨W13, eW13, hm⟩ := rdb_g hm
        obtain ⟨W14, eW14, hm⟩ := rdb_g hm
        obtain ⟨y15, W15, hy15, -, y15r, hm⟩ := hm
        -- both begin
        have n8 : z8.toNat = n := by omega
        have n4 : y4.toNat = n := by omega
        have hV11 : V11 = up2 (up2 V (t + 2) n (sgnZ W)) (t + 3) n (V t 1) := by
          unfold f_r_begin at h11
          obtain ⟨b1, -, h11⟩ := rdb_g h11
          obtain ⟨b2, eb2, -, h11⟩ := rdb_g h11
          obtain ⟨b3, eb3, h11⟩ := rdb_g h11
          obtain ⟨b4, eb4, -, h11⟩ := rdb_g h11
          obtain ⟨b5, eb5, h11⟩ := rdb_g h11
          have h11 : V11 = b5 := h11
          have e4 : b4 = V t 1 := by rw [← eb4, ← eb3, up2_n _ _ (Or.inl (by omega))]
          rw [h11, ← eb5, ← eb3, e4, show b2.toNat = n by omega]
        have v72 : V11 72 = V 72 := by rw [hV11, up2_c _ _ (by omega), up2_c _ _ (by omega)]
        rw [← ez12, v72, c1.1, wr_id ⟨by omega, by omega⟩] at ez13
        have hV14 : V14 = up2 V11 72 2 (W 0 5 + 1) := by rw [← eV14, ← ez13]
        have hW14 : W14 = up2 (up2 (up2 (up2 (up2 W 7 n (sgnZ W)) 0 5 (W 0 5 + 1)) 8 n (W 0 10)) 0 9 0) 0 11 0 := by rw [← eW14, ← eW13, ← eW12, ← eW11, ← eW10, n4, ← ey1, ← ey3]
        have w05 : W14 0 5 = W 0 5 + 1 := by rw [hW14, up2_n _ _ (Or.inr (by decide)), up2_n _ _ (Or.inr (by decide)), up2_n _ _ (Or.inl (by decide)), up2_s]
        have w09 : W14 0 9 = 0 := by rw [hW14, up2_n _ _ (Or.inr (by decide)), up2_s]
        have w11 : W14 0 11 = 0 := by rw [hW14, up2_s]
        have w0 : ∀ k : Nat, k ≠ 5 → k ≠ 9 → k ≠ 11 → W14 0 k = W 0 k := fun k k1 k2 k3 => by rw [hW14, up2_n _ _ (Or.inr k3), up2_n _ _ (Or.inr k2), up2_n _ _ (Or.inl (by decide)), up2_n _ _ (Or.inr k1), up2_n _ _ (Or.inl (by decide))]
        have wr : ∀ i : Nat, i ≠ 0 → i ≠ 7 → i ≠ 8 → W14 i = W i := fun i i1 i2 i3 => by rw [hW14, up2_c _ _ i1, up2_c _ _ i1, up2_c _ _ i3, up2_c _ _ i1, up2_c _ _ i2]
        have w7 : ∀ k : Nat, W14 7 k = if k = n then sgnZ W else W 7 k := fun k => by
          rw [hW14, up2_n _ _ (Or.inl (by decide)), up2_n _ _ (Or.inl (by decide)), up2_n _ _ (Or.inl (by decide)), up2_n _ _ (Or.inl (by decide))]
          by_cases e : k = n
          · rw [e, up2_s, if_pos rfl]
          · rw [up2_n _ _ (Or.inr e), if_neg e]
        have w8 : ∀ k : Nat, W14 8 k = if k = n then W 0 10 else W 8 k := fun k => by
          rw [hW14, up2_n _ _ (Or.inl (by decide)), up2_n _ _ (Or.inl (by decide))]
          by_cases e : k = n
          · rw [e, up2_s, if_pos rfl]
          · rw [up2_n _ _ (Or.inr e), if_neg e, up2_n _ _ (Or.inl (by decide)), up2_n _ _ (Or.inl (by decide))]
        have vr : ∀ i : Nat, i ≠ 72 → i ≠ t + 2 → i ≠ t + 3 → V14 i = V i := fun i i1 i2 i3 => by rw [hV14, up2_c _ _ i1, hV11, up2_c _ _ i3, up2_c _ _ i2]
        have v7 : ∀ k : Nat, k ≠ 2 → V14 72 k = V 72 k := fun k k1 => by rw [hV14, up2_n _ _ (Or.inr k1), v72]
        have v2 : ∀ k : Nat, V14 (t + 2) k = if k = n then sgnZ W else V (t + 2) k := fun k => by
          rw [hV14, up2_n _ _ (Or.inl (by rcases ht with rfl | rfl | rfl | rfl | rfl | rfl <;> decide)), hV11, up2_n _ _ (Or.inl (by omega))]
          by_cases e : k = n
          · rw [e, up2_s, if_pos rfl]
          · rw [up2_n _ _ (Or.inr e), if_neg e]
        have v3 : ∀ k : Nat, V14 (t + 3) k = if k = n then V t 1 else V (t + 3) k := fun k => by
          rw [hV14, up2_n _ _ (Or.inl (by rcases ht with rfl | rfl | rfl | rfl | rfl | rfl <;> decide)), hV11]
          by_cases e : k = n
          · rw [e, up2_s, if_pos rfl]
          · rw [up2_n _ _ (Or.inr e), if_neg e, up2_n _ _ (Or.inl (by omega))]
        have vt : V14 t = V t := vr t tn.1.1 (by omega) (by omega)
        have vs : V14 (t + 1) = V (t + 1) := vr _ tn.1.2 (by omega) (by omega)
        have S1 : RS1 t 0 1 V14 W14 [] := by
          refine ⟨c1.to (by rw [hV14, up2_s, w05]) (v7 3 (by decide)) (w0 6 (by decide) (by decide) (by decide)) (by rw [w05]; omega) (vr 58 (by decide) (by omega) (by omega)) (vr 59 (by decide) (by omega) (by omega)) (wr 4 (by decide) (by decide) (by decide)), c2.to (by rw [vt]) vs (w0 10 (by decide) (by decide) (by decide)) (wr 5 (by decide) (by decide) (by decide)), by rw [v7 4 (by decide)]; exact c3, w09, by decide, by rw [vt, w05]; omega⟩
        rcases sums0.all (by decide) ht hR S1 (by omega) (Or.inl w11) h15 hy15 with ⟨f1, f2, f3, f4, f5, f6, f7, f8, f9⟩ | ⟨f1, f2, f3⟩
        · rw [if_pos (by omega)] at hx hm
          obtain ⟨y18, ey18, -, hm⟩ := rdb_g hm
          obtain ⟨W19, eW19, hm⟩ := rdb_g hm
          obtain ⟨y20, W20, hy20, -, y20r, hm⟩ := hm
          obtain ⟨z18, hz18, hx⟩ := hx
          have hz18 := q_peek f3.1 hz18
          subst hz18
          have fp := f3.1.2.2.1
          have fl : V15 t 1 = W15 0 10 := by have := f3.2.1.2.1; simpa using this
          have hW19 : W19 = up2 W15 9 n (W15 0 10) := by rw [← eW19, n4, ← ey18]
          have es19 : sgnZ W19 = sgnZ W15 := by rw [hW19]; exact sgn_eq (up2_n _ _ (Or.inl (by decide))) (up2_n _ _ (Or.inl (by decide))) (up2_c _ _ (by decide))
          by_cases g40 : sgnZ W15 = 40
          · rw [if_pos g40] at hx
            obtain ⟨V20, h20, -, hx⟩ := hx
            obtain ⟨z21, V21, h21, -, z21r, hx⟩ := hx
            have e15t5 : V15 t 5 = n := by rw [f6.2.1 5 (by decide), vt]; exact c5
            have hV20 : V20 = up2 V15 (t + 4) n (V15 t 1) := by
              unfold f_r_beginWhen at h20
              obtain ⟨b1, -, h20⟩ := rdb_g h20
              obtain ⟨b2, eb2, -, h20⟩ := rdb_g h20
              obtain ⟨b3, eb3, -, h20⟩ := rdb_g h20
              obtain ⟨b4, eb4, h20⟩ := rdb_g h20
              have h20 : V20 = b4 := h20
              rw [h20, ← eb4, ← eb3, show b2.toNat = n by omega]
            have t4 : t + 4 ≠ 72 ∧ t + 4 ≠ 58 ∧ t + 4 ≠ 59 := by rcases ht with rfl | rfl | rfl | rfl | rfl | rfl <;> decide
            have S2 : RS1 t 0 1 V20 W19 [] := by
              obtain ⟨u1, u2, u3, u4, u5, u6⟩ := f3
              have e0 : ∀ k : Nat, W19 0 k = W15 0 k := fun k => by rw [hW19, up2_n _ _ (Or.inl (by decide))]
              have ev : ∀ i : Nat, i ≠ t + 4 → V20 i = V15 i := fun i hi => by rw [hV20, up2_c _ _ hi]
              exact ⟨u1.to (by rw [ev 72 t4.1.symm, e0]; exact u1.1) (by rw [ev 72 t4.1.symm]) (e0 6) (by rw [e0]; omega) (ev 58 t4.2.1.symm) (ev 59 t4.2.2.symm) (by rw [hW19, up2_c _ _ (by decide)]), u2.to (by rw [ev t (by omega)]) (ev _ (by omega)) (e0 10) (by rw [hW19, up2_c _ _ (by decide)]), by rw [ev 72 t4.1.symm]; exact u3, by rw [e0]; exact u4, u5, by rw [ev t (by omega), e0]; exact u6⟩
            rcases q_condition ht hR S2 (by rw [hW19, up2_n _ _ (Or.inl (by decide))]; omega) (by rw [es19]; exact g40) h21 hy20 with ⟨g1, g2, g3, g4, g5, g6, g7⟩ | ⟨g1, g2, g3⟩
            · rw [if_pos (by omega)] at hx hm
              obtain ⟨y23, ey23, -, hm⟩ := rdb_g hm
              obtain ⟨W24, eW24, hm⟩ := rdb_g hm
              obtain ⟨W25, eW25, hm⟩ := rdb_g hm
              simp only [rtn, Prod.mk.injEq] at hm
              obtain ⟨V24, h24, -, hx⟩ := hx
              simp only [rtn, Prod.mk.injEq] at hx
              have gp := g3.1.2.2.1
              have gl : V21 t 1 = W20 0 10 := by have := g3.2.1.2.1; simpa using this
              have e21t5 : V21 t 5 = n := by rw [g5.2.1 5 (by decide), hV20, up2_n _ _ (Or.inl (by omega))]; exact e15t5
              have hU : U = up2 (up2 V21 t 5 (n + 1)) (t + 3) (n + 1) (V21 t 1) := by
                unfold f_r_end at h24
                obtain ⟨b1, -, h24⟩ := rdb_g h24
                obtain ⟨b2, eb2, -, h24⟩ := rdb_g h24
                obtain ⟨b3, eb3, h24⟩ := rdb_g h24
                obtain ⟨b4, eb4, -, h24⟩ := rdb_g h24
                obtain ⟨b5, eb5, h24⟩ := rdb_g h24
                have h24 : V24 = b5 := h24
                have e4 : b4 = V21 t 1 := by rw [← eb4, ← eb3, up2_n _ _ (Or.inr (by decide))]
                rw [hx.2, h24, ← eb5, ← eb3, e4, ← eb2, e21t5, show ((n : Int) + 1).toNat = n + 1 by omega]
              have hX : X = up2 (up2 W20 10 n (W20 0 10)) 0 12 (n + 1) := by rw [hm.2, ← eW25, ← eW24, n4, ← ey23, show y4 = (n : Int) by omega]
              have x0 : ∀ k : Nat, k ≠ 12 → X 0 k = W20 0 k := fun k hk => by rw [hX, up2_n _ _ (Or.inr hk), up2_n _ _ (Or.inl (by decide))]
              have xr : ∀ i : Nat, i ≠ 0 → i ≠ 10 → X i = W20 i := fun i i1 i2 => by rw [hX, up2_c _ _ i1, up2_c _ _ i2]
              have m20 : ∀ i : Nat, i ≠ 0 → i ≠ 5 → i ≠ 6 → i ≠ 7 → i ≠ 8 → i ≠ 9 → W20 i = W i := fun i i0 i5 i6 i7 i8 i9 => by
                rw [g4.2.1 i i0 i5 i6, hW19, up2_c _ _ i9, f5.2.1 i i0 i5 i6, wr i i0 i7 i8]
              have k7 : ∀ k : Nat, X 7 k = if k = n then sgnZ W else W 7 k := fun k => by rw [xr 7 (by decide) (by decide), g4.2.1 7 (by decide) (by decide) (by decide), hW19, up2_n _ _ (Or.inl (by decide)), f5.2.1 7 (by decide) (by decide) (by decide), w7]
              have k8 : ∀ k : Nat, X 8 k = if k = n then W 0 10 else W 8 k := fun k => by rw [xr 8 (by decide) (by decide), g4.2.1 8 (by decide) (by decide) (by decide), hW19, up2_n _ _ (Or.inl (by decide)), f5.2.1 8 (by decide) (by decide) (by decide), w8]
              have k9 : ∀ k : Nat, X 9 k = if k = n then V15 t 1 else W 9 k := fun k => by
                rw [xr 9 (by decide) (by decide), g4.2.1 9 (by decide) (by decide) (by decide), hW19]
                by_cases e : k = n
                · rw [e, up2_s, if_pos rfl, fl]
                · rw [up2_n _ _ (Or.inr e), if_neg e, f5.2.1 9 (by decide) (by decide) (by decide), wr 9 (by decide) (by decide) (by decide)]
              have k10 : ∀ k : Nat, X 10 k = if k = n then V21 t 1 else W 10 k := fun k => by
                rw [hX, up2_n _ _ (Or.inl (by decide))]
                by_cases e : k = n
                · rw [e, up2_s, if_pos rfl, gl]
                · rw [up2_n _ _ (Or.inr e), if_neg e, m20 10 (by decide) (by decide) (by decide) (by decide) (by decide) (by decide)]
              have ut : ∀ k : Nat, k ≠ 5 → U t k = V21 t k := fun k hk => by rw [hU, up2_n _ _ (Or.inl (by omega)), up2_n _ _ (Or.inr hk)]
              have uo : ∀ i : Nat, i ≠ t → i ≠ t + 3 → U i = V21 i := fun i i1 i2 => by rw [hU, up2_c _ _ i2, up2_c _ _ i1]
              have u2 : ∀ k : Nat, U (t + 2) k = if k = n then sgnZ W else V (t + 2) k := fun k => by rw [uo _ (by omega) (by omega), g5.1 _ (by rcases ht with rfl | rfl | rfl | rfl | rfl | rfl <;> decide) (by omega) (by omega), hV20, up2_n _ _ (Or.inl (by omega)), f6.1 _ (by rcases ht with rfl | rfl | rfl | rfl | rfl | rfl <;> decide) (by omega) (by omega), v2]
              have u4 : ∀ k : Nat, U (t + 4) k = if k = n then V15 t 1 else V (t + 4) k := fun k => by
                rw [uo _ (by omega) (by omega), g5.1 _ t4.1 (by omega) (by omega), hV20]
                by_cases e : k = n
                · rw [e, up2_s, if_pos rfl]
                · rw [up2_n _ _ (Or.inr e), if_neg e, f6.1 _ t4.1 (by omega) (by omega), vr _ t4.1 (by omega) (by omega)]
              have u3 : ∀ k : Nat, U (t + 3) k = if k = n + 1 then V21 t 1 else if k = n then V t 1 else V (t + 3) k := fun k => by
                rw [hU]
                by_cases e : k = n + 1
                · rw [e, up2_s, if_pos rfl]
                · rw [up2_n _ _ (Or.inr e), if_neg e, up2_n _ _ (Or.inl (by omega)), g5.1 _ (by rcases ht with rfl | rfl | rfl | rfl | rfl | rfl <;> decide) (by omega) (by omega), hV20, up2_n _ _ (Or.inl (by omega)), f6.1 _ (by rcases ht with rfl | rfl | rfl | rfl | rfl | rfl <;> decide) (by omega) (by omega), v3]
              -- the code
              have f9s := f9.2
              have f9p := f9.1
              rw [vt] at f9s f9p
              rw [vs] at f9p
              have g7s := g7.2
              have g7p := g7.1
              have e20t : V20 t = V15 t := by rw [hV20, up2_c _ _ (by omega)]
              have e20s : V20 (t + 1) = V15 (t + 1) := by rw [hV20, up2_c _ _ (by omega)]
              rw [e20t] at g7s g7p
              rw [e20s] at g7p
              have us : U (t + 1) = V21 (t + 1) := uo _ (by omega) (by omega)
              have ul : U t 1 = V21 t 1 := ut 1 (by decide)
              have la := f9s.2.1
              have lb := g7s.2.1
              have la0 := f9s.1
              refine Or.inl ⟨hx.1, hm.1, by omega, ⟨?_, ?_, ?_, ?_, ?_, ?_, by omega, Or.inr ?_, fun j hj => ?_⟩, ?_, ?_, ?_, fun i hi => ?_, ?_⟩
              · obtain ⟨p1, -⟩ := g3
                have u72 : U 72 = V21 72 := uo _ tn.1.1.symm (by rcases ht with rfl | rfl | rfl | rfl | rfl | rfl <;> decide)
                exact p1.to (by rw [u72, x0 5 (by decide)]; exact p1.1) (by rw [u72]) (x0 6 (by decide)) (by rw [x0 5 (by decide)]; omega) (uo 58 tn.2.1.symm (by omega)) (uo 59 tn.2.2.1.symm (by omega)) (xr 4 (by decide) (by decide))
              · exact g3.2.1.to ul us (x0 10 (by decide)) (xr 5 (by decide) (by decide))
              · rw [uo _ tn.1.1.symm (by rcases ht with rfl | rfl | rfl | rfl | rfl | rfl <;> decide)]; exact g3.2.2.1
              · rw [ul, x0 5 (by decide)]; have := g3.2.2.2.2.2; omega
              · rw [hU, up2_n _ _ (Or.inl (by omega)), up2_s]; omega
              · rw [hX, up2_s]; omega
              · rw [u3, if_pos rfl, ul]
              · by_cases e : j = n
                · subst e
                  unfold CLj
                  rw [u2, u3, u3, u4, k7, k8, k9, k10, if_pos rfl, if_pos rfl, if_neg (by omega), if_pos rfl, if_pos rfl, if_pos rfl, if_pos rfl, if_pos rfl, if_pos rfl, us, ul]
                  refine ⟨rfl, cl, rfl, rfl, Int.le_refl _, ?_, g7s⟩
                  exact (f9s.up (by decide)).cg fun k a b => g7p k b
                · refine (c9 j (by omega)).cg (by rw [u2, if_neg e]) (by rw [u3, if_neg (by omega), if_neg e]) (by rw [u4, if_neg e]) ?_ (fun k hk => ?_) (by rw [ul]; omega) (by rw [k7, if_neg e]) (by rw [k8, if_neg e]) (by rw [k9, if_neg e]) (by rw [k10, if_neg e])
                  · rw [u3, if_neg (by omega)]
                    by_cases e2 : j + 1 = n
                    · rw [if_pos e2]
                      rcases c8 with c8 | c8
                      · omega
                      · rw [e2]; exact c8.symm
                    · rw [if_neg e2]
                  · rw [us, g7p k (by omega), f9p k (by omega)]
              · rw [x0 5 (by decide)]
                have e0 : W19 0 5 = W15 0 5 := by rw [hW19, up2_n _ _ (Or.inl (by decide))]
                omega
              · rw [x0 6 (by decide), g4.2.2.1, hW19, up2_n _ _ (Or.inl (by decide)), f5.2.2.1, w0 6 (by decide) (by decide) (by decide)]
              · rw [x0 4 (by decide), g4.2.2.2.2, hW19, up2_n _ _ (Or.inl (by decide)), f5.2.2.2.2, w0 4 (by decide) (by decide) (by decide)]
              · rw [xr i (by omega) (by omega), m20 i (by omega) (by omega) (by omega) (by omega) (by omega) (by omega)]
              · rw [xr 4 (by decide) (by decide), m20 4 (by decide) (by decide) (by decide) (by decide) (by decide) (by decide)]
            · rw [if_neg (fun hh => hh g1)] at hx
              rw [if_neg (fun hh => hh g2)] at hm
              simp only [rtn, Prod.mk.injEq] at hx hm
              exact Or.inr ⟨hx.1, hm.1, by rw [hx.2, hm.2]; exact g3⟩
          · rw [if_neg g40] at hx
            obtain ⟨z, Z, hZ, -, -, hx⟩ := hx
            simp only [rtn, Prod.mk.injEq] at hx
            obtain ⟨k3, k4⟩ := q_fail hZ (by decide) (by have := f3.1.1; omega)
            unfold f_m_readsCondition at hy20
            obtain ⟨b1, eb1, -, hy20⟩ := rdb_g hy20
            obtain ⟨b2, -, -, hy20⟩ := rdb_g hy20
            obtain ⟨b3, -, -, hy20⟩ := rdb_g hy20
            obtain ⟨b4, -, -, hy20⟩ := rdb_g hy20
            obtain ⟨c, hc, -, hy20⟩ := hy20
            have hc := q_here hc
            rw [if_neg (by omega)] at hy20
            obtain ⟨y, Y, hY, -, -, hy20⟩ := hy20
            simp only [rtn, Prod.mk.injEq] at hy20
            have e0 : b1 = W15 0 5 := by rw [← eb1, hW19, up2_n _ _ (Or.inl (by decide))]
            obtain ⟨k5, k6⟩ := q_wrong hY (by decide) (by omega)
            rw [if_neg (fun hh => hh (hy20.1.trans k5))] at hm
            simp only [rtn, Prod.mk.injEq] at hm
            refine Or.inr ⟨hx.1.trans k3, hm.1, ?_⟩
            rw [hx.2, k4, up2_s, hm.2, hy20.2, k6, up2_s, f3.1.1, e0]
            exact ⟨rfl, by omega⟩
        · rw [if_neg (fun hh => hh f1)] at hx
          rw [if_neg (fun hh => hh f2)] at hm
          simp only [rtn, Prod.mk.injEq] at hx hm
          exact Or.inr ⟨hx.1, hm.1, by rw [hx.2, hm.2]; exact f3⟩
    · exact absurd gK g1
  · rw [if_neg (show ¬ ¬ y6 = 0 from fun hh => gK (hy6.on hh))] at hm
    obtain ⟨y, Y, hY, -, -, hm⟩ := hm
    obtain ⟨w1, w2⟩ := wrong 1 Y y (by decide) hY hm
    by_cases gneg : sgnZ W < 0
    · rw [if_pos gneg] at hx
      obtain ⟨z, Z, hZ, -, -, hx⟩ := hx
      obtain ⟨w3, w4⟩ := fail 1 Z z (by decide) hZ hx
      exact Or.inr ⟨w3, w1, by rw [w4, w2]; exact ⟨rfl, by omega⟩⟩
    · rw [if_neg gneg, iC_c ⟨by omega, by omega⟩] at hx
      obtain ⟨z4, ez4, -, hx⟩ := rdb_g hx
      subst ez4
      obtain ⟨z5, hz5, hx⟩ := hx
      rcases q_kinds hk ⟨by omega, by omega⟩ hz5 with ⟨-, g1⟩ | ⟨g1, -⟩
      · exact absurd g1 gK
      · rw [if_neg (by omega)] at hx
        obtain ⟨z, Z, hZ, -, -, hx⟩ := hx
        obtain ⟨w3, w4⟩ := fail 1 Z z (by decide) hZ hx
        exact Or.inr ⟨w3, w1, by rw [w4, w2]; exact ⟨rfl, by omega⟩⟩
end
section
-- reading: a text, on both sides (own work)
def cpJ (x1 m : Int) : (Int → (Nat → Nat → Int) → Int × (Nat → Nat → Int) → Prop) → Int → (Nat → Nat → Int) → Int × (Nat → Nat → Int) → Prop :=
  (fun rc885 (z883 : Int) (V885 : Nat → Nat → Int) => (if m ≤ z883 then rtn (m, V885) else rdb (V885 7 z883.toNat) fun z896 => rdb (V885 8 z883.toNat) fun z897 => rdb (V885 9 z883.toNat) fun z898 => rdb (V885 10 z883.toNat) fun z899 => rdb (up2 V885 13 ((14 * x1 + z883).toNat) z896) fun V900 => rdb (up2 V900 14 ((14 * x1 + z883).toNat) (220 * x1 + z897)) fun V901 => rdb (up2 V901 15 ((14 * x1 + z883).toNat) (220 * x1 + z898)) fun V902 => rdb (up2 V902 16 ((14 * x1 + z883).toNat) (220 * x1 + z899)) fun V903 => rc885 (z883 + 1) V903))
def cpK (x1 c m : Int) : (Int → (Nat → Nat → Int) → Int × (Nat → Nat → Int) → Prop) → Int → (Nat → Nat → Int) → Int × (Nat → Nat → Int) → Prop :=
  (fun rc795 (z793 : Int) (V795 : Nat → Nat → Int) => (if c ≤ z793 then lop2 (16) (cpJ x1 m) 0 V795 else rdb (V795 5 z793.toNat) fun z904 => rdb (up2 V795 11 ((220 * x1 + z793).toNat) z904) fun V905 => rc795 (z793 + 1) V905))
def rdB (x1 : Int) (J : Nat → Nat → Int) (Rr : Nat → Nat → Nat) : (Int → (Nat → Nat → Int) → Int × (Nat → Nat → Int) → Prop) → Int → (Nat → Nat → Int) → Int × (Nat → Nat → Int) → Prop :=
  (fun rc613 (z611 : Int) (V613 : Nat → Nat → Int) => (if z611 = 0 then rdb (up2 V613 0 4 0) fun V615 => rdb (V615 0 7) fun z616 => rtn (z616, V615) else rdb (V613 0 5) fun z617 => fct (0 ≤ z617 ∧ z617 ≤ 220) <| rdb (V613 0 6) fun z618 => fct (0 ≤ z618 ∧ z618 ≤ 220) <| rdb (V613 0 10) fun z619 => fct (0 ≤ z619 ∧ z619 ≤ 220) <| rdb (V613 0 12) fun z620 => fct (0 ≤ z620 ∧ z620 ≤ 14) <| (if z618 ≤ z617 then rdb (up2 V613 0 4 0) fun V622 => rdb (V622 0 10) fun z623 => fct (0 ≤ z623 ∧ z623 ≤ 220) <| rdb (V622 0 12) fun z624 => fct (0 ≤ z624 ∧ z624 ≤ 14) <| rdb (up2 V622 12 x1.toNat z624) fun V625 => lop2 (222) (cpK x1 z623 z624) 0 V625 else calVM 160 V613 (f_m_takes 59 V613 J Rr) fun z906 V906 => fct (0 ≤ z906 ∧ z906 ≤ 1) <| rdb (V906 0 5) fun z907 => fct (0 ≤ z907 ∧ z907 ≤ 220) <| (if z906 = 0 then rc613 0 V906 else calVM 37188636052598456065952 V906 (f_m_readsClause x1 V906 J Rr) fun z910 V910 => fct (0 ≤ z910 ∧ z910 ≤ 1) <| (if z910 = 0 then rc613 0 V910 else rc613 1 V910)))))
theorem cpJ_all {x m : Nat} : ∀ (n j : Nat) (V X : Nat → Nat → Int) (b : Int), j ≤ m → lop2 n (cpJ x m) (j : Int) V (b, X) → b = m ∧ (∀ i : Nat, i < 13 ∨ 16 < i → X i = V i) ∧ (∀ q : Nat, j ≤ q → q < m → X 13 (14 * x + q) = V 7 q ∧ X 14 (14 * x + q) = 220 * x + V 8 q ∧ X 15 (14 * x + q) = 220 * x + V 9 q ∧ X 16 (14 * x + q) = 220 * x + V 10 q) ∧ ∀ i k : Nat, k < 14 * x + j ∨ 14 * x + m ≤ k → X i k = V i k := by
  intro n
  induction n with
  | zero => intro j V X b _ h; exact False.elim h
  | succ n ih =>
    intro j V X b hj h
    have h : cpJ x m (lop2 n (cpJ x m)) (j : Int) V (b, X) := h
    unfold cpJ at h
    by_cases g : (m : Int) ≤ j
    · rw [if_pos g] at h
      simp only [rtn, Prod.mk.injEq] at h
      obtain ⟨h1, h2⟩ := h
      subst h2
      exact ⟨h1, fun _ _ => rfl, fun q q1 q2 => by omega, fun _ _ _ => rfl⟩
    · rw [if_neg g] at h
      obtain ⟨z1, e1, h⟩ := rdb_g h
      obtain ⟨z2, e2, h⟩ := rdb_g h
      obtain ⟨z3, e3, h⟩ := rdb_g h
      obtain ⟨z4, e4, h⟩ := rdb_g h
      obtain ⟨V1, f1, h⟩ := rdb_g h
      obtain ⟨V2, f2, h⟩ := rdb_g h
      obtain ⟨V3, f3, h⟩ := rdb_g h
      obtain ⟨V4, f4, h⟩ := rdb_g h
      have ek : (14 * (x : Int) + j).toNat = 14 * x + j := by omega
      rw [ek] at f1 f2 f3 f4
      have ej : ((j : Int)).toNat = j := Int.toNat_natCast j
      rw [ej] at e1 e2 e3 e4
      obtain ⟨h1, h2, h3, h4⟩ := ih (j + 1) V4 X b (by omega) (by rw [Int.natCast_add]; exact h)
      have hr : ∀ i : Nat, i < 13 ∨ 16 < i → V4 i = V i := fun i hi => by rw [← f4, up2_c _ _ (by omega), ← f3, up2_c _ _ (by omega), ← f2, up2_c _ _ (by omega), ← f1, up2_c _ _ (by omega)]
      have ho : ∀ i k : Nat, k ≠ 14 * x + j → V4 i k = V i k := fun i k hk => by rw [← f4, up2_n _ _ (Or.inr hk), ← f3, up2_n _ _ (Or.inr hk), ← f2, up2_n _ _ (Or.inr hk), ← f1, up2_n _ _ (Or.inr hk)]
      refine ⟨h1, fun i hi => (h2 i hi).trans (hr i hi), fun q q1 q2 => ?_, fun i k hk => (h4 i k (by omega)).trans (ho i k (by omega))⟩
      by_cases e : q = j
      · subst e
        rw [h4 13 _ (Or.inl (by omega)), h4 14 _ (Or.inl (by omega)), h4 15 _ (Or.inl (by omega)), h4 16 _ (Or.inl (by omega))]
        refine ⟨?_, ?_, ?_, ?_⟩
        · rw [← f4, up2_n _ _ (Or.inl (by decide)), ← f3, up2_n _ _ (Or.inl (by decide)), ← f2, up2_n _ _ (Or.inl (by decide)), ← f1, up2_s, e1]
        · rw [← f4, up2_n _ _ (Or.inl (by decide)), ← f3, up2_n _ _ (Or.inl (by decide)), ← f2, up2_s, e2]
        · rw [← f4, up2_n _ _ (Or.inl (by decide)), ← f3, up2_s, e3]
        · rw [← f4, up2_s, e4]
      · have := h3 q (by omega) q2
        rw [hr 7 (by decide), hr 8 (by decide), hr 9 (by decide), hr 10 (by decide)] at this
        exact this
theorem cpK_all {x m c : Nat} : ∀ (n j : Nat) (V X : Nat → Nat → Int) (b : Int), j ≤ c → lop2 n (cpK x c m) (j : Int) V (b, X) → b = m ∧ (∀ i : Nat, i < 11 ∨ i = 12 ∨ 16 < i → X i = V i) ∧ (∀ q : Nat, j ≤ q → q < c → X 11 (220 * x + q) = V 5 q) ∧ (∀ k : Nat, k < 220 * x + j ∨ 220 * x + c ≤ k → X 11 k = V 11 k) ∧ (∀ q : Nat, q < m → X 13 (14 * x + q) = V 7 q ∧ X 14 (14 * x + q) = 220 * x + V 8 q ∧ X 15 (14 * x + q) = 220 * x + V 9 q ∧ X 16 (14 * x + q) = 220 * x + V 10 q) ∧ ∀ i k : Nat, 13 ≤ i → k < 14 * x ∨ 14 * x + m ≤ k → X i k = V i k := by
  intro n
  induction n with
  | zero => intro j V X b _ h; exact False.elim h
  | succ n ih =>
    intro j V X b hj h
    have h : cpK x c m (lop2 n (cpK x c m)) (j : Int) V (b, X) := h
    unfold cpK at h
    by_cases g : (c : Int) ≤ j
    · rw [if_pos g] at h
      obtain ⟨h1, h2, h3, h4⟩ := cpJ_all 16 0 V X b (by omega) h
      exact ⟨h1, fun i hi => h2 i (by omega), fun q q1 q2 => by omega, fun k hk => by rw [h2 11 (by decide)], fun q hq => h3 q (by omega) hq, fun i k _ hk => h4 i k (by omega)⟩
    · rw [if_neg g] at h
      obtain ⟨z1, e1, h⟩ := rdb_g h
      obtain ⟨V1, f1, h⟩ := rdb_g h
      have ek : (220 * (x : Int) + j).toNat = 220 * x + j := by omega
      rw [ek] at f1
      rw [Int.toNat_natCast j] at e1
      obtain ⟨h1, h2, h3, h4, h5, h6⟩ := ih (j + 1) V1 X b (by omega) (by rw [Int.natCast_add]; exact h)
      have hr : ∀ i : Nat, i ≠ 11 → V1 i = V i := fun i hi => by rw [← f1, up2_c _ _ hi]
      have ho : ∀ k : Nat, k ≠ 220 * x + j → V1 11 k = V 11 k := fun k hk => by rw [← f1, up2_n _ _ (Or.inr hk)]
      refine ⟨h1, fun i hi => (h2 i hi).trans (hr i (by omega)), fun q q1 q2 => ?_, fun k hk => (h4 k (by omega)).trans (ho k (by omega)), fun q hq => ?_, fun i k hi hk => (h6 i k hi hk).trans (by rw [hr i (by omega)])⟩
      · by_cases e : q = j
        · subst e
          rw [h4 _ (Or.inl (by omega)), ← f1, up2_s, e1]
        · rw [h3 q (by omega) q2, hr 5 (by decide)]
      · have := h5 q hq
        rw [hr 7 (by decide), hr 8 (by decide), hr 9 (by decide), hr 10 (by decide)] at this
        exact this
theorem SG.rs {s w : Nat → Int} {tx : Nat} {f t : Int} (h : SG s f t 15) (e : ∀ z : Int, f ≤ z → z < t → stw (s z.toNat) (w (220 * tx + z.toNat))) : RS s w tx f t 1 := by
  obtain ⟨h1, h2, h3, τ, h4, h5, h6⟩ := h
  refine ⟨τ, h4, h5, fun z a b => ?_⟩
  obtain ⟨op, v, w1, w2⟩ := e z a b
  refine ⟨op, v, w1, w2, ?_⟩
  obtain ⟨k1, k2, k3, k4, k5⟩ := w2
  have hf := fc_b v.toNat
  have hop : s z.toNat % 16 = op := by rcases k5 with ⟨-, k5⟩ | ⟨k5, -, k6⟩ <;> omega
  have := h6 z a b
  rw [hop] at this
  unfold sTy
  rcases this with ⟨g1 | g1, g2, g3, g4⟩ | ⟨g1, g2, g3, g4, g5⟩
  · exact Or.inl ⟨g1, g2, by omega, g4⟩
  · refine Or.inr (Or.inl ⟨g1, ?_, g2, by omega, g4⟩)
    rcases k5 with ⟨k5, -⟩ | ⟨-, k5, -⟩
    · exact absurd g1 k5
    · exact k5
  · exact Or.inr (Or.inr (Or.inl ⟨g1, g2, g3, by omega, g5⟩))
theorem CG.rs {s w : Nat → Int} {tx : Nat} {f t : Int} (h : CG s f t) (e : ∀ z : Int, f ≤ z → z < t → stw (s z.toNat) (w (220 * tx + z.toNat))) : RS s w tx f t (-1) := by
  obtain ⟨h1, h2, τ, h4, h5, h6⟩ := h
  refine ⟨τ, h4, h5, fun z a b => ?_⟩
  obtain ⟨op, v, w1, w2⟩ := e z a b
  refine ⟨op, v, w1, w2, ?_⟩
  obtain ⟨k1, k2, k3, k4, k5⟩ := w2
  have hf := fc_b v.toNat
  have hop : s z.toNat % 16 = op := by rcases k5 with ⟨-, k5⟩ | ⟨k5, -, k6⟩ <;> omega
  have this := h6 z a b
  unfold cgS at this
  rw [hop] at this
  unfold sTy
  rcases this with ⟨g1 | g1, g2, g3, g4⟩ | ⟨g1, g2, g3, g4, g5⟩ | ⟨g1, g2, g3, g4⟩ | ⟨g1, g2, g3⟩ | ⟨g1, g2, g3, g4, g5, g6⟩
  · exact Or.inl ⟨g1, g2, by omega, g4⟩
  · refine Or.inr (Or.inl ⟨g1, ?_, g2, by omega, g4⟩)
    rcases k5 with ⟨k5, -⟩ | ⟨-, k5, -⟩
    · exact absurd g1 k5
    · exact k5
  · exact Or.inr (Or.inr (Or.inl ⟨g1, g2, g3, by omega, g5⟩))
  · exact Or.inr (Or.inr (Or.inr (Or.inl ⟨g1, g2, g3, g4⟩)))
  · exact Or.inr (Or.inr (Or.inr (Or.inr (Or.inl ⟨g1, g2, g3⟩))))
  · have hv : s z.toNat / 16 = v := by
      rcases k5 with ⟨-, k5⟩ | ⟨k5, -⟩
      · omega
      · omega
    rw [hv] at g4 g5 g6
    exact Or.inr (Or.inr (Or.inr (Or.inr (Or.inr ⟨g1, g2, g3, g4, g5, g6⟩))))
/-- what was read is the text on both sides -/
theorem CL.rt {t x n : Nat} {V Y X : Nat → Nat → Int} (h : CL t V Y n) (h11 : ∀ q : Nat, (q : Int) < Y 0 10 → X 11 (220 * x + q) = Y 5 q) (h12 : X 12 x = n) (h13 : ∀ q : Nat, q < n → X 13 (14 * x + q) = Y 7 q ∧ X 14 (14 * x + q) = 220 * x + Y 8 q ∧ X 15 (14 * x + q) = 220 * x + Y 9 q ∧ X 16 (14 * x + q) = 220 * x + Y 10 q) : RTz t x V X := by
  obtain ⟨c1, c2, c3, c4, c5, c6, c7, c8, c9⟩ := h
  have cp := c1.2.2.1
  have cl : V t 1 = Y 0 10 := by have := c2.2.1; simpa using this
  have cl0 := c2.1
  refine ⟨by rw [c5, h12], by omega, by omega, fun j hj => ?_⟩
  have hj : j < n := by omega
  obtain ⟨l1, l2, l3, l4, l5, l6, l7⟩ := c9 j hj
  obtain ⟨k1, k2, k3, k4⟩ := h13 j hj
  have a1 := l6.1
  have a2 := l6.2.1
  have a3 := l7.2.1
  refine ⟨by rw [l1, k1], by rw [l2, k2], by rw [l3, k3], by rw [l4, k4], a1, by omega, by omega, l5, l6.rs fun z za zb => ?_, l7.rs fun z za zb => ?_⟩
  · rw [h11 z.toNat (by omega)]
    exact c2.2.2.1 z.toNat (by omega)
  · rw [h11 z.toNat (by omega)]
    exact c2.2.2.1 z.toNat (by omega)
/-- the tape is the same -/
def TP (V W : Nat → Nat → Int) : Prop := V 58 1 = W 0 4 ∧ (0 ≤ W 0 4 ∧ W 0 4 ≤ 220) ∧ ∀ k : Nat, (k : Int) < W 0 4 → V 59 k = iAnd (W 4 k) 255
/-- of the texts, the x-th alone may be another -/
def CHG (x : Nat) (W X : Nat → Nat → Int) : Prop := (∀ i : Nat, 17 ≤ i → X i = W i) ∧ (∀ k : Nat, k < 220 * x ∨ 220 * x + 220 ≤ k → X 11 k = W 11 k) ∧ (∀ k : Nat, k ≠ x → X 12 k = W 12 k) ∧ ∀ i k : Nat, 13 ≤ i → k < 14 * x ∨ 14 * x + 14 ≤ k → X i k = W i k
theorem RTz.other {t tx x : Nat} {Vx Vm Ux Um : Nat → Nat → Int} (h : RTz t tx Vx Vm) (hne : tx ≠ x) (hx : ∀ i : Nat, t ≤ i → i ≤ t + 4 → Ux i = Vx i) (hm : CHG x Vm Um) : RTz t tx Ux Um := by
  obtain ⟨h1, h2, h3, h4⟩ := h
  obtain ⟨m1, m2, m3, m4⟩ := hm
  have rs : ∀ f g e : Int, 0 ≤ f → g ≤ 220 → RS (Vx (t + 1)) (Vm 11) tx f g e → RS (Vx (t + 1)) (Um 11) tx f g e := fun f g e hf hg ⟨τ, k1, k2, k3⟩ => ⟨τ, k1, k2, fun z a b => by
    rw [m2 (220 * tx + z.toNat) (by omega)]
    exact k3 z a b⟩
  refine ⟨?_, ?_, ?_, fun j hj => ?_⟩
  · rw [hx t (by omega) (by omega), m3 tx hne]; exact h1
  · rw [hx t (by omega) (by omega)]; exact h2
  · rw [hx t (by omega) (by omega)]; exact h3
  · rw [hx t (by omega) (by omega)] at hj
    obtain ⟨r1, r2, r3, r4, r5, r6, r7, r8, r9, r10⟩ := h4 j hj
    unfold RC1
    rw [hx t (by omega) (by omega), hx (t + 1) (by omega) (by omega), hx (t + 2) (by omega) (by omega), hx (t + 3) (by omega) (by omega), hx (t + 4) (by omega) (by omega)]
    have e : ∀ i : Nat, 13 ≤ i → Um i (14 * tx + j) = Vm i (14 * tx + j) := fun i hi => m4 i _ hi (by omega)
    rw [e 13 (by decide), e 14 (by decide), e 15 (by decide), e 16 (by decide)]
    exact ⟨r1, r2, r3, r4, r5, r6, r7, r8, rs _ _ _ (by omega) (by omega) r9, rs _ _ _ (by omega) (by omega) r10⟩
theorem rows11 {m : Nat} {W X : Nat → Nat → Int} (h : FBm m W X) (hm : m < 2 ^ 75) : ∀ i : Nat, 11 ≤ i → X i = W i := fun i hi => h.row fun k => by
  rw [mkey_r (by omega)]
  exact Nat.testBit_lt_two_pow (Nat.lt_of_lt_of_le hm (Nat.pow_le_pow_right (by decide) (by omega)))
/-- the reference's loop over clauses -/
theorem q_reads {x n b : Int} {W J X : Nat → Nat → Int} {R : Nat → Nat → Nat} (hn : 1 ≤ n ∧ n ≤ 200) (hnt : n ≤ W 0 4) (h : f_m_reads x n W J R (b, X)) : ∃ (y : Int) (Y : Nat → Nat → Int) (k : Nat), f_m_readsClause x (up2 (up2 (up2 (up2 W 0 5 0) 0 6 n) 0 10 0) 0 12 0) J R (y, Y) ∧ FBm 37188636052598456065952 (up2 (up2 (up2 (up2 W 0 5 0) 0 6 n) 0 10 0) 0 12 0) Y ∧ lop2 k (rdB x J R) y Y (b, X) := by
  unfold f_m_reads at h
  obtain ⟨z1, h1, -, h⟩ := h
  have e1 : z1 = 1 := by
    unfold f_m_in at h1
    rw [if_neg (by omega), if_neg (by omega)] at h1
    exact h1
  rw [if_neg (by omega)] at h
  obtain ⟨z4, e4, -, h⟩ := rdb_g h
  rw [if_pos (by omega)] at h
  obtain ⟨V6, e6, h⟩ := rdb_g h
  obtain ⟨V7, e7, h⟩ := rdb_g h
  obtain ⟨V8, e8, h⟩ := rdb_g h
  obtain ⟨V9, e9, h⟩ := rdb_g h
  obtain ⟨y, Y, hY, hF, -, h⟩ := h
  have e : V9 = up2 (up2 (up2 (up2 W 0 5 0) 0 6 n) 0 10 0) 0 12 0 := by rw [← e9, ← e8, ← e7, ← e6]
  rw [e] at hY hF
  exact ⟨y, Y, _, hY, hF, h⟩
end
section
-- reading: all of a text; law and rule (own work)
theorem CL.pass {t n : Nat} {V Y : Nat → Nat → Int} (h : CL t V Y n) (ht : isTx t) (hlt : Y 0 5 < Y 0 6) : CL t (up2 V 72 2 (Y 0 5 + 1)) (up2 Y 0 5 (Y 0 5 + 1)) n := by
  have tn := tx_ne ht
  have t2 : t + 2 ≠ 72 ∧ t + 3 ≠ 72 ∧ t + 4 ≠ 72 := by rcases ht with rfl | rfl | rfl | rfl | rfl | rfl <;> decide
  obtain ⟨c1, c2, c3, c4, c5, c6, c7, c8, c9⟩ := h
  have cp := c1.2.2.1
  refine ⟨c1.to (by rw [up2_s, up2_s]) (up2_n _ _ (Or.inr (by decide))) (up2_n _ _ (Or.inr (by decide))) (by rw [up2_s]; omega) (up2_c _ _ (by decide)) (up2_c _ _ (by decide)) (up2_c _ _ (by decide)), c2.to (up2_n _ _ (Or.inl tn.1.1)) (up2_c _ _ tn.1.2) (up2_n _ _ (Or.inr (by decide))) (up2_c _ _ (by decide)), ?_, ?_, ?_, ?_, c7, ?_, fun j hj => ?_⟩
  · rw [up2_n _ _ (Or.inr (by decide))]; exact c3
  · rw [up2_n _ _ (Or.inl tn.1.1), up2_s]; omega
  · rw [up2_n _ _ (Or.inl tn.1.1)]; exact c5
  · rw [up2_n _ _ (Or.inr (by decide))]; exact c6
  · rw [up2_n _ _ (Or.inl t2.2.1), up2_n _ _ (Or.inl tn.1.1)]; exact c8
  · exact (c9 j hj).cg (up2_n _ _ (Or.inl t2.1)) (up2_n _ _ (Or.inl t2.2.1)) (up2_n _ _ (Or.inl t2.2.2)) (up2_n _ _ (Or.inl t2.2.1)) (fun k _ => up2_n _ _ (Or.inl tn.1.2)) (by rw [up2_n _ _ (Or.inl tn.1.1)]; exact Int.le_refl _) (up2_n _ _ (Or.inl (by decide))) (up2_n _ _ (Or.inl (by decide))) (up2_n _ _ (Or.inl (by decide))) (up2_n _ _ (Or.inl (by decide)))
/-- what reading comes to -/
def RDD (t x : Nat) (a b : Int) (W U X : Nat → Nat → Int) : Prop := a = b ∧ X 0 4 = 0 ∧ ((a < 0 ∧ ∀ i : Nat, 11 ≤ i → X i = W i) ∨ ((0 < a ∧ a ≤ 14) ∧ RTz t x U X ∧ CHG x W X))
/-- the reference's end with a fault -/
theorem rd_bad {x : Nat} {k : Nat} {b : Int} {Y X J : Nat → Nat → Int} {R : Nat → Nat → Nat} (h : lop2 k (rdB x J R) 0 Y (b, X)) : b = Y 0 7 ∧ X = up2 Y 0 4 0 := by
  cases k with
  | zero => exact False.elim h
  | succ k =>
    have h : rdB x J R (lop2 k (rdB x J R)) 0 Y (b, X) := h
    unfold rdB at h
    rw [if_pos rfl] at h
    obtain ⟨V1, e1, h⟩ := rdb_g h
    obtain ⟨z, e2, h⟩ := rdb_g h
    simp only [rtn, Prod.mk.injEq] at h
    refine ⟨?_, by rw [h.2, ← e1]⟩
    rw [h.1, ← e2, ← e1, up2_n _ _ (Or.inr (by decide))]
/-- the reference's end -/
theorem rd_end {x n k : Nat} {b : Int} {Y X J : Nat → Nat → Int} {R : Nat → Nat → Nat} (h : lop2 k (rdB x J R) 1 Y (b, X)) (hn : Y 0 12 = n) (hc : 0 ≤ Y 0 10) (hend : Y 0 6 ≤ Y 0 5) : b = n ∧ X 0 4 = 0 ∧ (∀ q : Nat, (q : Int) < Y 0 10 → X 11 (220 * x + q) = Y 5 q) ∧ X 12 x = n ∧ (∀ q : Nat, q < n → X 13 (14 * x + q) = Y 7 q ∧ X 14 (14 * x + q) = 220 * x + Y 8 q ∧ X 15 (14 * x + q) = 220 * x + Y 9 q ∧ X 16 (14 * x + q) = 220 * x + Y 10 q) ∧ (n ≤ 14 → Y 0 10 ≤ 220 → CHG x Y X) := by
  cases k with
  | zero => exact False.elim h
  | succ k =>
    have h : rdB x J R (lop2 k (rdB x J R)) 1 Y (b, X) := h
    unfold rdB at h
    rw [if_neg (by decide)] at h
    obtain ⟨z617, e617, -, h⟩ := rdb_g h
    obtain ⟨z618, e618, -, h⟩ := rdb_g h
    obtain ⟨z619, e619, -, h⟩ := rdb_g h
    obtain ⟨z620, e620, -, h⟩ := rdb_g h
    rw [if_pos (by omega)] at h
    obtain ⟨V1, e1, h⟩ := rdb_g h
    obtain ⟨z1, f1, -, h⟩ := rdb_g h
    obtain ⟨z2, f2, -, h⟩ := rdb_g h
    obtain ⟨V2, e2, h⟩ := rdb_g h
    rw [← e1, up2_n _ _ (Or.inr (by decide))] at f1 f2
    obtain ⟨c, hcc⟩ : ∃ c : Nat, z1 = (c : Int) := ⟨z1.toNat, by omega⟩
    have hz2 : z2 = (n : Int) := by omega
    subst hcc hz2
    rw [Int.toNat_natCast x] at e2
    obtain ⟨h1, h2, h3, h4, h5, h6⟩ := cpK_all (x := x) (m := n) (c := c) 222 0 V2 X b (by omega) h
    have r0 : ∀ i : Nat, i ≠ 0 → i ≠ 12 → V2 i = Y i := fun i i1 i2 => by rw [← e2, up2_c _ _ i2, ← e1, up2_c _ _ i1]
    refine ⟨h1, ?_, fun q hq => ?_, ?_, fun q hq => ?_, fun hn14 hc220 => ⟨fun i hi => ?_, fun k hk => ?_, fun k hk => ?_, fun i k hi hk => ?_⟩⟩
    · rw [h2 0 (by decide), ← e2, up2_n _ _ (Or.inl (by decide)), ← e1, up2_s]
    · rw [h3 q (by omega) (by omega), r0 5 (by decide) (by decide)]
    · rw [h2 12 (by decide), ← e2, up2_s]
    · have := h5 q hq
      rw [r0 7 (by decide) (by decide), r0 8 (by decide) (by decide), r0 9 (by decide) (by decide), r0 10 (by decide) (by decide)] at this
      exact this
    · rw [h2 i (by omega), r0 i (by omega) (by omega)]
    · rw [h4 k (by omega), r0 11 (by decide) (by decide)]
    · rw [h2 12 (by decide), ← e2, up2_n _ _ (Or.inr hk), ← e1, up2_c _ _ (by decide)]
    · rw [h6 i k hi (by omega), r0 i (by omega) (by omega)]
theorem CHG.of {x : Nat} {W Y X : Nat → Nat → Int} (h : CHG x Y X) (e : ∀ i : Nat, 11 ≤ i → Y i = W i) : CHG x W X := by
  obtain ⟨m1, m2, m3, m4⟩ := h
  exact ⟨fun i hi => (m1 i hi).trans (e i (by omega)), fun k hk => by rw [m2 k hk, e 11 (by decide)], fun k hk => by rw [m3 k hk, e 12 (by decide)], fun i k hi hk => by rw [m4 i k hi hk, e i (by omega)]⟩
theorem q_read {k1 t x : Nat} {n a b : Int} {V W J Jm U X : Nat → Nat → Int} {R Rm : Nat → Nat → Nat} (hk : (k1 = 0 ∧ (x : Int) = 0) ∨ (k1 = 2 ∧ 0 < (x : Int))) (ht : isTx t) (hR : R 72 1 = t) (hT : TP V W) (hn : 1 ≤ n ∧ n ≤ 200) (hnt : n ≤ W 0 4) (hx : f_r_read n k1 V J R (a, U)) (hm : f_m_reads x n W Jm Rm (b, X)) : RDD t x a b W U X := by
  have tn := tx_ne ht
  obtain ⟨y, Y, k, hY, hF, hM⟩ := q_reads hn hnt hm
  unfold f_r_read at hx
  obtain ⟨V1, e1, hx⟩ := rdb_g hx
  obtain ⟨V2, e2, hx⟩ := rdb_g hx
  obtain ⟨V3, e3, hx⟩ := rdb_g hx
  obtain ⟨V4, e4, hx⟩ := rdb_g hx
  obtain ⟨t5, e5, hx⟩ := rdb_g hx
  rw [hR] at e5
  subst e5
  obtain ⟨V6, h6, -, hx⟩ := hx
  have e6 : V6 = up2 (up2 V4 t 1 0) t 5 0 := by
    unfold f_r_empty at h6
    obtain ⟨z, -, h6⟩ := rdb_g h6
    obtain ⟨Z1, f1, h6⟩ := rdb_g h6
    obtain ⟨Z2, f2, h6⟩ := rdb_g h6
    have h6 : V6 = Z2 := h6
    rw [h6, ← f2, ← f1]
  have v72 : V6 72 = V4 72 := by rw [e6, up2_c _ _ tn.1.1.symm, up2_c _ _ tn.1.1.symm]
  have v4 : V4 = up2 (up2 (up2 (up2 V 72 2 0) 72 3 n) 72 4 0) 72 5 0 := by rw [← e4, ← e3, ← e2, ← e1]
  have vo : ∀ i : Nat, i ≠ 72 → i ≠ t → V6 i = V i := fun i i1 i2 => by rw [e6, up2_c _ _ i2, up2_c _ _ i2, v4, up2_c _ _ i1, up2_c _ _ i1, up2_c _ _ i1, up2_c _ _ i1]
  have C0 : CL t V6 (up2 (up2 (up2 (up2 W 0 5 0) 0 6 n) 0 10 0) 0 12 0) 0 := by
    have w5 : up2 (up2 (up2 (up2 W 0 5 0) 0 6 n) 0 10 0) 0 12 0 0 5 = 0 := by rw [up2_n _ _ (Or.inr (by decide)), up2_n _ _ (Or.inr (by decide)), up2_n _ _ (Or.inr (by decide)), up2_s]
    have w6 : up2 (up2 (up2 (up2 W 0 5 0) 0 6 n) 0 10 0) 0 12 0 0 6 = n := by rw [up2_n _ _ (Or.inr (by decide)), up2_n _ _ (Or.inr (by decide)), up2_s]
    have w10 : up2 (up2 (up2 (up2 W 0 5 0) 0 6 n) 0 10 0) 0 12 0 0 10 = 0 := by rw [up2_n _ _ (Or.inr (by decide)), up2_s]
    have w4 : up2 (up2 (up2 (up2 W 0 5 0) 0 6 n) 0 10 0) 0 12 0 4 = W 4 := by rw [up2_c _ _ (by decide), up2_c _ _ (by decide), up2_c _ _ (by decide), up2_c _ _ (by decide)]
    have vt1 : V6 t 1 = 0 := by rw [e6, up2_n _ _ (Or.inr (by decide)), up2_s]
    refine ⟨⟨?_, ?_, ?_, fun q hq => ?_⟩, ⟨by rw [w10]; decide, by rw [vt1, w10]; rfl, fun q hq => by rw [w10] at hq; omega, fun i hi => by simp at hi⟩, ?_, by rw [vt1, w5]; decide, ?_, by rw [up2_s]; rfl, by decide, Or.inl rfl, fun j hj => by omega⟩
    · rw [w5, v72, v4, up2_n _ _ (Or.inr (by decide)), up2_n _ _ (Or.inr (by decide)), up2_n _ _ (Or.inr (by decide)), up2_s]
    · rw [w6, v72, v4, up2_n _ _ (Or.inr (by decide)), up2_n _ _ (Or.inr (by decide)), up2_s]
    · rw [w5, w6, vo 58 (by decide) tn.2.1.symm, hT.1]; omega
    · rw [w6] at hq
      rw [w4, vo 59 (by decide) tn.2.2.1.symm]
      exact hT.2.2 q (by omega)
    · rw [v72, v4, up2_n _ _ (Or.inr (by decide)), up2_s]
    · rw [e6, up2_s]; rfl
  have R0 : ∀ i : Nat, 11 ≤ i → up2 (up2 (up2 (up2 W 0 5 0) 0 6 n) 0 10 0) 0 12 0 i = W i := fun i hi => by rw [up2_c _ _ (by omega), up2_c _ _ (by omega), up2_c _ _ (by omega), up2_c _ _ (by omega)]
  generalize up2 (up2 (up2 (up2 W 0 5 0) 0 6 n) 0 10 0) 0 12 0 = W2 at *
  obtain ⟨bX, hbX, hx⟩ := lop2_g hx
  have key : ∀ (N j M : Nat) (V2 W2 Y : Nat → Nat → Int) (y : Int), CL t V2 W2 j → (∀ i : Nat, 11 ≤ i → W2 i = W i) → lop2 N bX (j : Int) V2 (a, U) → f_m_readsClause x W2 Jm Rm (y, Y) → FBm 37188636052598456065952 W2 Y → lop2 M (rdB x Jm Rm) y Y (b, X) → RDD t x a b W U X := by
    intro N
    induction N with
    | zero => intro j M V2 W2 Y y _ _ hx; exact False.elim hx
    | succ N ih =>
      intro j M V2 W2 Y y hC hW hx hY hF hM
      have c14 := hC.2.2.2.2.2.2.1
      rw [lop2_s hbX, if_neg (by omega)] at hx
      obtain ⟨z100, V100, h100, -, -, hx⟩ := hx
      rcases q_clause hk ht hR hC h100 hY with ⟨f1, f2, f3, f4, f5, f6, f7, f8, f9⟩ | ⟨f1, f2, f3⟩
      · rw [if_pos (by omega)] at hx
        subst f2
        obtain ⟨z103, e103, hx⟩ := rdb_g hx
        obtain ⟨z104, e104, hx⟩ := rdb_g hx
        rw [f4.1.1] at e103
        rw [f4.1.2.1] at e104
        have fp := f4.1.2.2.1
        have f8 : ∀ i : Nat, 11 ≤ i → Y i = W i := fun i hi => (f8 i hi).trans (hW i hi)
        by_cases g : z103 < z104
        · rw [if_pos g] at hx
          obtain ⟨z106, V106, h106, -, z106r, hx⟩ := hx
          cases M with
          | zero => exact False.elim hM
          | succ M =>
            have hM : rdB x Jm Rm (lop2 M (rdB x Jm Rm)) 1 Y (b, X) := hM
            unfold rdB at hM
            rw [if_neg (by decide)] at hM
            obtain ⟨z617, e617, -, hM⟩ := rdb_g hM
            obtain ⟨z618, e618, -, hM⟩ := rdb_g hM
            obtain ⟨z619, e619, -, hM⟩ := rdb_g hM
            obtain ⟨z620, e620, -, hM⟩ := rdb_g hM
            rw [if_neg (by omega)] at hM
            obtain ⟨z906, V906, h906, -, -, hM⟩ := hM
            obtain ⟨z907, -, -, hM⟩ := rdb_g hM
            rcases q_sign f4.1 h106 with ⟨g1, g2, g3⟩ | ⟨g1, g2, g3⟩
            · rw [if_pos (by omega)] at hx
              rcases q_takes h906 with ⟨l1, l2, l3⟩ | ⟨l1, -⟩
              · rw [if_neg (by omega)] at hM
                obtain ⟨z910, V910, h910, hF2, r910, hM⟩ := hM
                have hM : lop2 M (rdB x Jm Rm) z910 V910 (b, X) := by
                  by_cases gz : z910 = 0
                  · rw [if_pos gz] at hM
                    rw [gz]; exact hM
                  · rw [if_neg gz] at hM
                    rw [show z910 = 1 by omega]; exact hM
                have C2 := f4.pass ht (by omega)
                rw [← g3, ← l3] at C2
                refine ih (j + 1) M V106 V906 V910 z910 C2 (fun i hi => ?_) (by rw [Int.natCast_add]; exact hx) h910 hF2 hM
                rw [l3, up2_c _ _ (by omega)]
                exact f8 i hi
              · exact absurd g1 l1
            · rw [if_neg (fun hh => hh g2)] at hx
              obtain ⟨z108, e108, hx⟩ := rdb_g hx
              simp only [rtn, Prod.mk.injEq] at hx
              rcases q_takes h906 with ⟨l1, -⟩ | ⟨l1, l2, l3⟩
              · exact absurd l1 g1
              · rw [if_pos l2] at hM
                obtain ⟨m1, m2⟩ := rd_bad hM
                have ea : a = -1000 - Y 0 5 := by rw [hx.1, ← e108, g3, up2_s]
                have eb : b = -1000 - Y 0 5 := by rw [m1, l3, up2_s]
                refine ⟨by omega, by rw [m2, up2_s], Or.inl ⟨by omega, fun i hi => ?_⟩⟩
                rw [m2, up2_c _ _ (by omega), l3, up2_c _ _ (by omega)]
                exact f8 i hi
        · rw [if_neg g] at hx
          obtain ⟨z109, e109, -, hx⟩ := rdb_g hx
          simp only [rtn, Prod.mk.injEq] at hx
          obtain ⟨hx1, hx2⟩ := hx
          subst hx2
          obtain ⟨m1, m2, m3, m4, m5, m6⟩ := rd_end hM f4.2.2.2.2.2.1 f4.2.1.1 (by omega)
          have ea : a = ((j + 1 : Nat) : Int) := by rw [hx1, ← e109, f4.2.2.2.2.1]
          have cl : U t 1 = Y 0 10 := by have := f4.2.1.2.1; simpa using this
          have c4 := f4.2.2.2.1
          refine ⟨by rw [ea, m1], m2, Or.inr ⟨by omega, f4.rt m3 m4 m5, (m6 (by omega) (by omega)).of f8⟩⟩
      · rw [if_neg (fun hh => hh f1)] at hx
        subst f2
        obtain ⟨z110, e110, hx⟩ := rdb_g hx
        simp only [rtn, Prod.mk.injEq] at hx
        obtain ⟨m1, m2⟩ := rd_bad hM
        obtain ⟨f4, f5⟩ := f3
        refine ⟨by rw [hx.1, ← e110, f4, m1], by rw [m2, up2_s], Or.inl ⟨by rw [hx.1, ← e110]; exact f5, fun i hi => ?_⟩⟩
        rw [m2, up2_c _ _ (by omega), rows11 hF (by decide) i hi]
        exact hW i hi
  exact key 17 0 k V6 W2 Y y C0 R0 hx hY hF hM
end
section
-- the world on both sides; law and rule (own work)
/-- six texts, all apart -/
def TXD (R : Nat → Nat → Nat) : Prop := isTx (R 72 1) ∧ ¬ R 60 0 = R 72 1 ∧ (∀ k : Nat, k < 4 → ¬ R 66 k = R 72 1 ∧ ¬ R 66 k = R 60 0) ∧ ∀ j k : Nat, j < 4 → k < 4 → j ≠ k → ¬ R 66 j = R 66 k
def WR (R : Nat → Nat → Nat) (V W : Nat → Nat → Int) : Prop :=
  (RLz 1 V (W 1) ∧ W 1 79 ≤ 9999) ∧ V 0 3 = W 0 53 ∧ (V 0 3 = 0 ∨ (RLz 20 V (W 3) ∧ W 3 79 ≤ 9999)) ∧ (RTx R V W ∧ TXD R) ∧ TP V W
theorem RLz.cg2 {b : Nat} {V U : Nat → Nat → Int} {N M : Nat → Int} (h : RLz b V N) (hV : ∀ i : Nat, b ≤ i → i ≤ b + 18 → U i = V i) (hN : ∀ k : Nat, k < 81 → M k = N k) : RLz b U M := by
  have e := h
  obtain ⟨a1, a2, a3, a4, a5, a6, a7, a8, a9, a10⟩ := h
  exact e.cg (fun i i1 i2 => hV i (by omega) i2) (fun k hk => hN k (by omega)) (by rw [hV b (by omega) (by omega)]) (by rw [hV b (by omega) (by omega), hN 79 (by decide)]; exact a4) (by rw [hV b (by omega) (by omega), hN 80 (by decide)]; exact a5) (by rw [hN 79 (by decide)]; exact a9) (by rw [hN 80 (by decide)]; exact a10)
theorem TP.cg {V W U X : Nat → Nat → Int} (h : TP V W) (h1 : U 58 1 = V 58 1) (h2 : U 59 = V 59) (h3 : X 0 4 = W 0 4) (h4 : X 4 = W 4) : TP U X := by
  unfold TP at h ⊢
  rw [h1, h2, h3, h4]
  exact h
/-- what the rest may change -/
theorem WR.keep {R : Nat → Nat → Nat} {V W U X : Nat → Nat → Int} (h : WR R V W) (hx : ∀ i : Nat, (1 ≤ i ∧ i ≤ 38) ∨ (58 ≤ i ∧ i ≤ 59) ∨ (61 ≤ i ∧ i ≤ 65) ∨ (73 ≤ i ∧ i ≤ 97) → U i = V i) (h0 : U 0 3 = V 0 3) (m1 : ∀ k : Nat, k < 81 → X 1 k = W 1 k) (m3 : X 3 = W 3) (m4 : X 4 = W 4) (mt : ∀ i : Nat, 11 ≤ i → i ≤ 16 → X i = W i) (m04 : X 0 4 = W 0 4) (m053 : X 0 53 = W 0 53) : WR R U X := by
  obtain ⟨⟨a1, a2⟩, a3, a4, ⟨a5, a6⟩, a7⟩ := h
  refine ⟨⟨a1.cg2 (fun i i1 i2 => hx i (by omega)) m1, by rw [m1 79 (by decide)]; exact a2⟩, by rw [h0, m053]; exact a3, ?_, ⟨a5.cg (fun i i1 i2 i3 => hx i (by omega)) mt, a6⟩, a7.cg (by rw [hx 58 (by decide)]) (hx 59 (by decide)) m04 m4⟩
  rw [h0, m3]
  rcases a4 with a4 | ⟨a4, a8⟩
  · exact Or.inl a4
  · exact Or.inr ⟨a4.cg2 (fun i i1 i2 => hx i (by omega)) (fun _ _ => rfl), a8⟩
theorem q_mIn {a b c r : Int} (h : f_m_in a b c r) : Sq r (b ≤ a ∧ a ≤ c) := by
  unfold f_m_in at h
  unfold Sq
  by_cases g : a < b
  · rw [if_pos g] at h; have h : r = 0 := h; omega
  · rw [if_neg g] at h
    by_cases g2 : c < a
    · rw [if_pos g2] at h; have h : r = 0 := h; omega
    · rw [if_neg g2] at h; have h : r = 1 := h; omega
theorem q_sWithin {a b c r : Int} (h : f_s_isWithin a b c r) : Sq r (b ≤ a ∧ a ≤ c) := by
  unfold f_s_isWithin at h
  unfold Sq
  by_cases g : a < b
  · rw [if_pos g] at h; have h : r = 0 := h; omega
  · rw [if_neg g] at h
    by_cases g2 : c < a
    · rw [if_pos g2] at h; have h : r = 0 := h; omega
    · rw [if_neg g2] at h; have h : r = 1 := h; omega
theorem q_sPlace {a c r : Int} (h : f_s_isPlace a c r) : Sq r (0 ≤ a ∧ a < c) := by
  unfold f_s_isPlace at h
  unfold Sq
  by_cases g : a < 0
  · rw [if_pos g] at h; have h : r = 0 := h; omega
  · rw [if_neg g] at h
    by_cases g2 : c ≤ a
    · rw [if_pos g2] at h; have h : r = 0 := h; omega
    · rw [if_neg g2] at h; have h : r = 1 := h; omega
theorem isTx_far {t u : Nat} (h : isTx t) (k : isTx u) (hne : ¬ t = u) : ∀ i : Nat, t ≤ i → i ≤ t + 4 → ¬ (u ≤ i ∧ i ≤ u + 4) := by
  intro i h1 h2
  rcases h with rfl | rfl | rfl | rfl | rfl | rfl <;> rcases k with rfl | rfl | rfl | rfl | rfl | rfl <;> omega
/-- the reference: law and rule, where it reads -/
theorem q_mReads0 {x n b : Int} {W J X : Nat → Nat → Int} {R : Nat → Nat → Nat} (h : f_m_reads x n W J R (b, X)) (hn : ¬ ((1 ≤ n ∧ n ≤ 200) ∧ n ≤ W 0 4)) : b = -1 ∧ X = W := by
  unfold f_m_reads at h
  obtain ⟨z1, h1, -, h⟩ := h
  have h1 := q_mIn h1
  by_cases g : z1 = 0
  · rw [if_pos g] at h
    simp only [rtn, Prod.mk.injEq] at h
    exact h
  · rw [if_neg g] at h
    have g1 := h1.on g
    obtain ⟨z4, e4, -, h⟩ := rdb_g h
    rw [if_neg (by omega)] at h
    simp only [rtn, Prod.mk.injEq] at h
    exact h
/-- a text is read into the spare one, which then takes place x -/
theorem WR.text {R R2 : Nat → Nat → Nat} {V W U X : Nat → Nat → Int} {a b : Int} {x : Nat} (h : WR R V W) (hx5 : x < 5) (hD : RDD (R 72 1) x a b W U X) (hU : ∀ i : Nat, i ≠ 72 → ¬ (R 72 1 ≤ i ∧ i ≤ R 72 1 + 4) → U i = V i)
    (hm1 : X 1 = W 1) (hm3 : X 3 = W 3) (hm53 : X 0 53 = W 0 53)
    (h1 : a ≤ 0 → R2 = R) (h2 : 0 < a → R2 72 1 = (if x = 0 then R 60 0 else R 66 (x - 1)) ∧ R2 60 0 = (if x = 0 then R 72 1 else R 60 0) ∧ ∀ k : Nat, k < 4 → R2 66 k = (if x = k + 1 then R 72 1 else R 66 k)) : a = b ∧ WR R2 (up2 U 58 1 0) X := by
  obtain ⟨⟨a1, a2⟩, a3, a4, ⟨a5, a6⟩, a7⟩ := h
  obtain ⟨d1, d2, d3⟩ := hD
  have tb := isTx_b a6.1
  obtain ⟨t1, t2, t3, t4⟩ := a6
  have ts : ∀ i : Nat, i ≠ 58 → i ≠ 72 → ¬ (R 72 1 ≤ i ∧ i ≤ R 72 1 + 4) → up2 U 58 1 0 i = V i := fun i i1 i2 i3 => (up2_c _ _ i1).trans (hU i i2 i3)
  refine ⟨d1, ⟨a1.cg2 (fun i i1 i2 => ts i (by omega) (by omega) (by omega)) (fun k _ => by rw [hm1]), by rw [hm1]; exact a2⟩, by rw [ts 0 (by decide) (by decide) (by omega), hm53]; exact a3, ?_, ?_, ?_⟩
  · rw [ts 0 (by decide) (by decide) (by omega), hm3]
    rcases a4 with a4 | ⟨a4, a8⟩
    · exact Or.inl a4
    · exact Or.inr ⟨a4.cg2 (fun i i1 i2 => ts i (by omega) (by omega) (by omega)) (fun _ _ => rfl), a8⟩
  · -- the texts
    have old : ∀ u tx : Nat, isTx u → ¬ u = R 72 1 → RTz u tx V W → (a < 0 ∨ tx ≠ x) → RTz u tx (up2 U 58 1 0) X := fun u tx hu hne hr hc => by
      have ub := isTx_b hu
      have e : ∀ i : Nat, u ≤ i → i ≤ u + 4 → up2 U 58 1 0 i = V i := fun i i1 i2 => ts i (by omega) (by omega) (isTx_far hu t1 hne i i1 i2)
      rcases d3 with ⟨d4, d5⟩ | ⟨d4, d5, d6⟩
      · exact hr.cg (fun i k i1 i2 => by rw [e i i1 i2]) (fun i k i1 i2 => by rw [d5 i i1])
      · exact hr.other (by omega) e d6
    rcases d3 with ⟨d4, d5⟩ | ⟨d4, d5, d6⟩
    · rw [h1 (by omega)]
      exact ⟨⟨⟨a5.1.1, old _ 0 a5.1.1 t2 a5.1.2 (Or.inl d4)⟩, fun k hk => ⟨(a5.2 k hk).1, old _ _ (a5.2 k hk).1 (t3 k hk).1 (a5.2 k hk).2 (Or.inl d4)⟩⟩, t1, t2, t3, t4⟩
    · obtain ⟨r1, r2, r3⟩ := h2 d4.1
      have new : RTz (R 72 1) x (up2 U 58 1 0) X := d5.cg (fun i k i1 i2 => by rw [up2_c _ _ (by omega)]) (fun _ _ _ _ => rfl)
      by_cases gx : x = 0
      · subst gx
        rw [if_pos rfl] at r1 r2
        have r3 : ∀ k : Nat, k < 4 → R2 66 k = R 66 k := fun k hk => by rw [r3 k hk, if_neg (by omega)]
        refine ⟨⟨⟨by rw [r2]; exact t1, by rw [r2]; exact new⟩, fun k hk => ⟨by rw [r3 k hk]; exact (a5.2 k hk).1, by rw [r3 k hk]; exact old _ _ (a5.2 k hk).1 (t3 k hk).1 (a5.2 k hk).2 (Or.inr (by omega))⟩⟩, by rw [r1]; exact a5.1.1, by rw [r1, r2]; exact fun e => t2 e.symm, fun k hk => ?_, fun j k hj hk hjk => ?_⟩
        · rw [r1, r2, r3 k hk]
          exact ⟨(t3 k hk).2, (t3 k hk).1⟩
        · rw [r3 j hj, r3 k hk]
          exact t4 j k hj hk hjk
      · rw [if_neg gx] at r1 r2
        obtain ⟨y, rfl⟩ : ∃ y : Nat, x = y + 1 := ⟨x - 1, by omega⟩
        rw [Nat.add_sub_cancel] at r1
        have ry : R2 66 y = R 72 1 := by rw [r3 y (by omega), if_pos rfl]
        have ro : ∀ k : Nat, k < 4 → k ≠ y → R2 66 k = R 66 k := fun k hk hky => by rw [r3 k hk, if_neg (by omega)]
        have hy := a5.2 y (by omega)
        have hty := t3 y (by omega)
        refine ⟨⟨⟨by rw [r2]; exact a5.1.1, by rw [r2]; exact old _ _ a5.1.1 t2 a5.1.2 (Or.inr (by omega))⟩, fun k hk => ?_⟩, by rw [r1]; exact hy.1, by rw [r1, r2]; exact fun e => hty.2 e.symm, fun k hk => ?_, fun j k hj hk hjk => ?_⟩
        · by_cases e : k = y
          · rw [e, ry]; exact ⟨t1, new⟩
          · rw [ro k hk e]
            exact ⟨(a5.2 k hk).1, old _ _ (a5.2 k hk).1 (t3 k hk).1 (a5.2 k hk).2 (Or.inr (by omega))⟩
        · rw [r1, r2]
          by_cases e : k = y
          · rw [e, ry]
            exact ⟨fun e2 => hty.1 e2.symm, fun e2 => t2 e2.symm⟩
          · rw [ro k hk e]
            exact ⟨t4 k y hk (by omega) e, (t3 k hk).2⟩
        · by_cases e : j = y
          · rw [e, ry, ro k hk (by omega)]
            exact fun e2 => (t3 k hk).1 e2.symm
          · rw [ro j hj e]
            by_cases e2 : k = y
            · rw [e2, ry]
              exact (t3 j hj).1
            · rw [ro k hk e2]
              exact t4 j k hj hk hjk
  · refine ⟨by rw [up2_s, d2], by rw [d2]; decide, fun k hk => by rw [d2] at hk; omega⟩
/-- reading keeps all but its own rows -/
theorem FBm.fl {m : Nat} {W X : Nat → Nat → Int} (h : FBm m W X) (k : Nat) (hk : m.testBit k = false) : X 0 k = W 0 k := h 0 k hk
theorem FBm.rw {m : Nat} {W X : Nat → Nat → Int} (h : FBm m W X) (i : Nat) (hi : i ≠ 0) (hk : m.testBit (64 + i) = false) : X i = W i := h.row fun k => by rw [mkey_r hi]; exact hk
theorem w_law {x a b : Int} {V V2 J J2 W Jm X : Nat → Nat → Int} {R R2 Rm : Nat → Nat → Nat} (h : WR R V W) (hx : f_s_law x V J R (a, (V2, J2, R2))) (hm : f_m_law x W Jm Rm (b, X)) : a = b ∧ WR R2 V2 X := by
  unfold f_m_law at hm
  obtain ⟨y, Y, hY, hF, hm⟩ := hm
  simp only [rtn, Prod.mk.injEq] at hm
  obtain ⟨rfl, rfl⟩ := hm
  unfold f_s_law at hx
  obtain ⟨z1, h1, -, hx⟩ := hx
  have h1 := q_sWithin h1
  have htp := h.2.2.2.2.1
  by_cases g1 : z1 = 0
  · rw [if_pos g1] at hx
    simp only [rtn, Prod.mk.injEq] at hx
    obtain ⟨rfl, rfl, rfl, rfl⟩ := hx
    have := h1.off g1
    obtain ⟨m1, m2⟩ := q_mReads0 hY (by omega)
    subst m2
    exact ⟨m1.symm, h⟩
  · rw [if_neg g1] at hx
    have g2 := h1.on g1
    obtain ⟨z4, e4, -, hx⟩ := rdb_g hx
    by_cases g3 : x ≤ z4
    · rw [if_pos g3] at hx
      obtain ⟨z6, V6, J6, R6, h6, hF6, hx⟩ := hx
      obtain ⟨V7, e7, hx⟩ := rdb_g hx
      simp only [rtn, Prod.mk.injEq] at hx
      obtain ⟨rfl, rfl, rfl, rfl⟩ := hx
      unfold f_b_writeLaw at h6
      obtain ⟨z8, V8, h8, -, h6⟩ := h6
      have hD : RDD (R 72 1) 0 z8 b W V8 X := q_read (x := 0) (Or.inl ⟨rfl, rfl⟩) h.2.2.2.1.2.1 rfl h.2.2.2.2 g2 (by omega) h8 hY
      by_cases g4 : z8 ≤ 0
      · rw [if_pos g4] at h6
        simp only [rtn, Prod.mk.injEq] at h6
        obtain ⟨rfl, rfl, rfl, rfl⟩ := h6
        rw [← e7]
        exact h.text (by decide) hD (fun i i1 i2 => funext fun k => hF6 i k (by omega)) (hF.rw 1 (by decide) (by decide)) (hF.rw 3 (by decide) (by decide)) (hF.fl 53 (by decide)) (fun _ => rfl) (fun g => by omega)
      · rw [if_neg g4] at h6
        obtain ⟨t3, et3, h6⟩ := rdb_g h6
        obtain ⟨z9, V9, J9, R9, h9, hF9, h6⟩ := h6
        obtain ⟨R10, e10, h6⟩ := rdb_g h6
        simp only [rtn, Prod.mk.injEq] at h6
        obtain ⟨rfl, rfl, rfl, rfl⟩ := h6
        unfold f_r_swap at h9
        obtain ⟨t1, et1, h9⟩ := rdb_g h9
        obtain ⟨R11, e11, h9⟩ := rdb_g h9
        simp only [rtn, Prod.mk.injEq] at h9
        obtain ⟨rfl, rfl, rfl, rfl⟩ := h9
        rw [← e7]
        refine h.text (by decide) hD (fun i i1 i2 => funext fun k => hF6 i k (by omega)) (hF.rw 1 (by decide) (by decide)) (hF.rw 3 (by decide) (by decide)) (hF.fl 53 (by decide)) (fun g => absurd g g4) (fun _ => ⟨?_, ?_, fun k hk => ?_⟩)
        · rw [← e10, up2_n _ _ (Or.inl (by decide)), ← e11, up2_s, if_pos rfl, et3]
        · rw [← e10, up2_s, if_pos rfl, et1]
        · rw [← e10, up2_n _ _ (Or.inl (by decide)), ← e11, up2_n _ _ (Or.inl (by decide)), if_neg (by omega)]
    · rw [if_neg g3] at hx
      simp only [rtn, Prod.mk.injEq] at hx
      obtain ⟨rfl, rfl, rfl, rfl⟩ := hx
      obtain ⟨m1, m2⟩ := q_mReads0 hY (by omega)
      subst m2
      exact ⟨m1.symm, h⟩
theorem w_rule {c x a b : Int} {V V2 J J2 W Jm X : Nat → Nat → Int} {R R2 Rm : Nat → Nat → Nat} (h : WR R V W) (hx : f_s_rule c x V J R (a, (V2, J2, R2))) (hm : f_m_rule c x W Jm Rm (b, X)) : a = b ∧ WR R2 V2 X := by
  unfold f_m_rule at hm
  obtain ⟨y0, hy0, -, hm⟩ := hm
  have hy0 := q_mIn hy0
  unfold f_s_rule at hx
  obtain ⟨z0, hz0, -, hx⟩ := hx
  have hz0 := q_sPlace hz0
  by_cases g0 : z0 = 0
  · have := hz0.off g0
    have e0 : y0 = 0 := by
      rcases hy0 with ⟨-, k⟩ | ⟨k, -⟩
      · omega
      · exact k
    rw [if_pos g0] at hx
    rw [if_pos e0] at hm
    simp only [rtn, Prod.mk.injEq] at hx hm
    obtain ⟨rfl, rfl, rfl, rfl⟩ := hx
    obtain ⟨rfl, rfl⟩ := hm
    exact ⟨rfl, h⟩
  have gc := hz0.on g0
  rw [if_neg g0] at hx
  rw [if_neg (fun hh => by have := hy0.off hh; omega)] at hm
  obtain ⟨y, Y, hY, hF, hm⟩ := hm
  simp only [rtn, Prod.mk.injEq] at hm
  obtain ⟨rfl, rfl⟩ := hm
  obtain ⟨z1, h1, -, hx⟩ := hx
  have h1 := q_sWithin h1
  have htp := h.2.2.2.2.1
  by_cases g1 : z1 = 0
  · rw [if_pos g1] at hx
    simp only [rtn, Prod.mk.injEq] at hx
    obtain ⟨rfl, rfl, rfl, rfl⟩ := hx
    have := h1.off g1
    obtain ⟨m1, m2⟩ := q_mReads0 hY (by omega)
    subst m2
    exact ⟨m1.symm, h⟩
  · rw [if_neg g1] at hx
    have g2 := h1.on g1
    obtain ⟨z4, e4, -, hx⟩ := rdb_g hx
    by_cases g3 : x ≤ z4
    · rw [if_pos g3] at hx
      obtain ⟨z6, V6, J6, R6, h6, hF6, hx⟩ := hx
      obtain ⟨V7, e7, hx⟩ := rdb_g hx
      simp only [rtn, Prod.mk.injEq] at hx
      obtain ⟨rfl, rfl, rfl, rfl⟩ := hx
      unfold f_b_writeRule at h6
      obtain ⟨z8, V8, h8, -, h6⟩ := h6
      have ec : c + 1 = ((c.toNat + 1 : Nat) : Int) := by omega
      rw [ec] at hY
      have hD : RDD (R 72 1) (c.toNat + 1) z8 b W V8 X := q_read (x := c.toNat + 1) (Or.inr ⟨rfl, by omega⟩) h.2.2.2.1.2.1 rfl h.2.2.2.2 g2 (by omega) h8 hY
      by_cases g4 : z8 ≤ 0
      · rw [if_pos g4] at h6
        simp only [rtn, Prod.mk.injEq] at h6
        obtain ⟨rfl, rfl, rfl, rfl⟩ := h6
        rw [← e7]
        exact h.text (by omega) hD (fun i i1 i2 => funext fun k => hF6 i k (by omega)) (hF.rw 1 (by decide) (by decide)) (hF.rw 3 (by decide) (by decide)) (hF.fl 53 (by decide)) (fun _ => rfl) (fun g => by omega)
      · rw [if_neg g4] at h6
        obtain ⟨t3, et3, h6⟩ := rdb_g h6
        obtain ⟨z9, V9, J9, R9, h9, hF9, h6⟩ := h6
        obtain ⟨R10, e10, h6⟩ := rdb_g h6
        simp only [rtn, Prod.mk.injEq] at h6
        obtain ⟨rfl, rfl, rfl, rfl⟩ := h6
        unfold f_r_swap at h9
        obtain ⟨t1, et1, h9⟩ := rdb_g h9
        obtain ⟨R11, e11, h9⟩ := rdb_g h9
        simp only [rtn, Prod.mk.injEq] at h9
        obtain ⟨rfl, rfl, rfl, rfl⟩ := h9
        rw [← e7]
        refine h.text (by omega) hD (fun i i1 i2 => funext fun k => hF6 i k (by omega)) (hF.rw 1 (by decide) (by decide)) (hF.rw 3 (by decide) (by decide)) (hF.fl 53 (by decide)) (fun g => absurd g g4) (fun _ => ⟨?_, ?_, fun k hk => ?_⟩)
        · rw [← e10, up2_n _ _ (Or.inl (by decide)), ← e11, up2_s, if_neg (by omega), Nat.add_sub_cancel, et3]
        · rw [← e10, up2_n _ _ (Or.inl (by decide)), ← e11, up2_n _ _ (Or.inl (by decide)), if_neg (by omega)]
        · rw [← e10]
          by_cases e : k = c.toNat
          · rw [e, up2_s, if_pos rfl, et1]
          · rw [up2_n _ _ (Or.inr e), ← e11, up2_n _ _ (Or.inl (by decide)), if_neg (by omega)]
    · rw [if_neg g3] at hx
      simp only [rtn, Prod.mk.injEq] at hx
      obtain ⟨rfl, rfl, rfl, rfl⟩ := hx
      obtain ⟨m1, m2⟩ := q_mReads0 hY (by omega)
      subst m2
      exact ⟨m1.symm, h⟩
end
section
-- what is told and changed on the landing (own work)
theorem WR.land {R : Nat → Nat → Nat} {V W U X : Nat → Nat → Int} (h : WR R V W) (hR : RLz 1 U (X 1) ∧ X 1 79 ≤ 9999) (hx : ∀ i : Nat, (20 ≤ i ∧ i ≤ 38) ∨ (58 ≤ i ∧ i ≤ 59) ∨ (61 ≤ i ∧ i ≤ 65) ∨ (73 ≤ i ∧ i ≤ 97) → U i = V i) (h0 : U 0 3 = V 0 3) (m3 : X 3 = W 3) (m4 : X 4 = W 4) (mt : ∀ i : Nat, 11 ≤ i → i ≤ 16 → X i = W i) (m04 : X 0 4 = W 0 4) (m053 : X 0 53 = W 0 53) : WR R U X := by
  obtain ⟨-, a3, a4, ⟨a5, a6⟩, a7⟩ := h
  refine ⟨hR, by rw [h0, m053]; exact a3, ?_, ⟨a5.cg (fun i i1 i2 i3 => hx i (by omega)) mt, a6⟩, a7.cg (by rw [hx 58 (by decide)]) (hx 59 (by decide)) m04 m4⟩
  rw [h0, m3]
  rcases a4 with a4 | ⟨a4, a8⟩
  · exact Or.inl a4
  · exact Or.inr ⟨a4.cg2 (fun i i1 i2 => hx i (by omega)) (fun _ _ => rfl), a8⟩
theorem WR.land1 {R : Nat → Nat → Nat} {V W U X : Nat → Nat → Int} (h : WR R V W) (hR : RLz 1 U (X 1) ∧ X 1 79 ≤ 9999) (hx : ∀ i : Nat, i = 0 ∨ 20 ≤ i → U i = V i) (hm : ∀ i : Nat, i ≠ 1 → X i = W i) : WR R U X :=
  h.land hR (fun i hi => hx i (by omega)) (by rw [hx 0 (Or.inl rfl)]) (hm 3 (by decide)) (hm 4 (by decide)) (fun i i1 i2 => hm i (by omega)) (by rw [hm 0 (by decide)]) (by rw [hm 0 (by decide)])
theorem WR.same {R : Nat → Nat → Nat} {V W U X : Nat → Nat → Int} {c a b : Int} (h : WR R V W) (hx : rtn (c, V) (a, U)) (hm : rtn (c, W) (b, X)) : a = b ∧ WR R U X := by
  simp only [rtn, Prod.mk.injEq] at hx hm
  obtain ⟨rfl, rfl⟩ := hx
  obtain ⟨rfl, rfl⟩ := hm
  exact ⟨rfl, h⟩
theorem RPl.cl {c k N c2 k2 : Nat → Int} {l : Nat} (h : RPl c k N l) (hc : ∀ j : Nat, j < 8 → c2 j = c j) (hk : ∀ j : Nat, j < 7 → k2 j = k j) : RPl c2 k2 N l := by
  unfold RPl dedX at h ⊢
  rw [hc 0 (by decide), hc 1 (by decide), hc 2 (by decide), hc 3 (by decide), hc 4 (by decide), hc 5 (by decide), hc 6 (by decide), hc 7 (by decide)]
  exact ⟨h.1, h.2.1, h.2.2.1, h.2.2.2.1, h.2.2.2.2.1, h.2.2.2.2.2.1, fun j hj => by rw [hk j hj]; exact h.2.2.2.2.2.2.1 j hj, h.2.2.2.2.2.2.2⟩
theorem RLz.pl {b x : Nat} {V U : Nat → Nat → Int} {N M : Nat → Int} (h : RLz b V N) (hx : x < 4) (hU : ∀ i : Nat, b ≤ i → i ≤ b + 18 → i ≠ b + 3 + 2 * x → i ≠ b + 3 + 2 * x + 1 → U i = V i)
    (hM : ∀ k : Nat, k < 81 → k ≠ x → k ≠ 4 + x → k ≠ 8 + x → k ≠ 12 + x → k ≠ 16 + x → k ≠ 20 + x → ¬ (24 + 7 * x ≤ k ∧ k < 31 + 7 * x) → k ≠ 76 → k ≠ 77 → M k = N k)
    (h76 : (0 ≤ M 76 ∧ M 76 < 16) ∧ ∀ l : Nat, l < 4 → l ≠ x → bt (M 76) l = bt (N 76) l) (h77 : (0 ≤ M 77 ∧ M 77 < 16) ∧ ∀ l : Nat, l < 4 → l ≠ x → bt (M 77) l = bt (N 77) l) (hn : RPl (U (b + 3 + 2 * x)) (U (b + 3 + 2 * x + 1)) M x) : RLz b U M := by
  obtain ⟨a1, a2, a3, a4, a5, a6, a7, a8, a9, a10⟩ := h
  have e : ∀ k : Nat, 52 ≤ k → k < 81 → k ≠ 76 → k ≠ 77 → M k = N k := fun k k1 k2 k3 k4 => hM k k2 (by omega) (by omega) (by omega) (by omega) (by omega) (by omega) (by omega) k3 k4
  have eb := hU b (by omega) (by omega) (by omega) (by omega)
  have e78 := e 78 (by decide) (by decide) (by decide) (by decide)
  have e79 := e 79 (by decide) (by decide) (by decide) (by decide)
  have e80 := e 80 (by decide) (by decide) (by decide) (by decide)
  refine ⟨fun l hl => ?_, fun p hp => (a2 p hp).cg (hU _ (by omega) (by omega) (by omega) (by omega)) (fun j hj => e j (by omega) (by omega) (by omega) (by omega)) e78, by rw [eb, e78]; exact a3, by rw [eb, e79]; exact a4, by rw [eb, e80]; exact a5, h76.1, h77.1, by rw [e78]; exact a8, by rw [e79]; exact a9, by rw [e80]; exact a10⟩
  by_cases g : l = x
  · subst g; exact hn
  · exact (a1 l hl).cg (hU _ (by omega) (by omega) (by omega) (by omega)) (hU _ (by omega) (by omega) (by omega) (by omega)) (fun j hj => hM j (by omega) (by omega) (by omega) (by omega) (by omega) (by omega) (by omega) (by omega) (by omega) (by omega)) (h76.2 l hl g) (h77.2 l hl g)
theorem RLz.pe {b x : Nat} {V U : Nat → Nat → Int} {N M : Nat → Int} (h : RLz b V N) (hx : x < 8) (hU : ∀ i : Nat, b < i → i ≤ b + 18 → i ≠ b + 11 + x → U i = V i) (hb : U b 2 = cnt (M 78) ∧ U b 3 = V b 3 ∧ U b 4 = V b 4)
    (hM : ∀ k : Nat, k < 81 → k ≠ 52 + x → k ≠ 60 + x → k ≠ 68 + x → k ≠ 78 → M k = N k)
    (h78 : (0 ≤ M 78 ∧ M 78 < 256) ∧ ∀ l : Nat, l < 8 → l ≠ x → bt (M 78) l = bt (N 78) l) (hn : RPe (U (b + 11 + x)) M x) : RLz b U M := by
  obtain ⟨a1, a2, a3, a4, a5, a6, a7, a8, a9, a10⟩ := h
  have e : ∀ k : Nat, k < 81 → (k < 52 ∨ 75 < k) → k ≠ 78 → M k = N k := fun k k2 k3 k4 => hM k k2 (by omega) (by omega) (by omega) k4
  have e76 := e 76 (by decide) (by decide) (by decide)
  have e77 := e 77 (by decide) (by decide) (by decide)
  have e79 := e 79 (by decide) (by decide) (by decide)
  have e80 := e 80 (by decide) (by decide) (by decide)
  refine ⟨fun l hl => (a1 l hl).cg (hU _ (by omega) (by omega) (by omega)) (hU _ (by omega) (by omega) (by omega)) (fun j hj => e j (by omega) (by omega) (by omega)) (by rw [e76]) (by rw [e77]), fun p hp => ?_, hb.1, by rw [hb.2.1, e79]; exact a4, by rw [hb.2.2, e80]; exact a5, by rw [e76]; exact a6, by rw [e77]; exact a7, h78.1, by rw [e79]; exact a9, by rw [e80]; exact a10⟩
  by_cases g : p = x
  · subst g; exact hn
  · have k := a2 p hp
    unfold RPe at k ⊢
    rw [hU _ (by omega) (by omega) (by omega), h78.2 p hp g, hM (52 + p) (by omega) (by omega) (by omega) (by omega) (by omega), hM (60 + p) (by omega) (by omega) (by omega) (by omega) (by omega), hM (68 + p) (by omega) (by omega) (by omega) (by omega) (by omega)]
    exact k
theorem q_fill {c : Nat} {x : Int} {V J U : Nat → Nat → Int} {R : Nat → Nat → Nat} (h : f_s_fillK c x V J R U) : (∀ i : Nat, i ≠ c + 1 → U i = V i) ∧ ∀ j : Nat, j < 7 → U (c + 1) j = x := by
  unfold f_s_fillK at h
  obtain ⟨b, hb, h⟩ := lop2_g h
  have key : ∀ (n : Nat) (z : Nat) (W : Nat → Nat → Int), (∀ i : Nat, i ≠ c + 1 → W i = V i) → (∀ j : Nat, j < z → W (c + 1) j = x) → lop2 n b (z : Int) W U → (∀ i : Nat, i ≠ c + 1 → U i = V i) ∧ ∀ j : Nat, j < 7 → U (c + 1) j = x := by
    intro n
    induction n with
    | zero => intro z W _ _ h; exact False.elim h
    | succ n ih =>
      intro z W h1 h2 h
      rw [lop2_s hb] at h
      by_cases g : (7 : Int) ≤ z
      · rw [if_pos g] at h
        have h : U = W := h
        subst h
        exact ⟨h1, fun j hj => h2 j (by omega)⟩
      · rw [if_neg g] at h
        refine ih (z + 1) _ (fun i hi => ?_) (fun j hj => ?_) (by rw [Int.natCast_add]; exact h)
        · rw [up2_c _ _ hi]; exact h1 i hi
        · rw [Int.toNat_natCast]
          by_cases e : j = z
          · rw [e, up2_s]
          · rw [up2_n _ _ (Or.inr e)]; exact h2 j (by omega)
  exact key 9 0 V (fun _ _ => rfl) (fun j hj => absurd hj (by omega)) h
theorem q_tell {c : Nat} {p w d : Int} {V J U : Nat → Nat → Int} {R : Nat → Nat → Nat} (h : f_s_tell c p w d V J R U) : (∀ i : Nat, i ≠ c → i ≠ c + 1 → U i = V i) ∧ (U c 0 = 1 ∧ U c 1 = p ∧ U c 2 = w ∧ U c 3 = d ∧ U c 4 = 0 ∧ U c 5 = 0 ∧ U c 6 = 0 ∧ U c 7 = -1) ∧ ∀ j : Nat, j < 7 → U (c + 1) j = w := by
  unfold f_s_tell at h
  obtain ⟨V1, e1, h⟩ := rdb_g h
  obtain ⟨V2, e2, h⟩ := rdb_g h
  obtain ⟨V3, e3, h⟩ := rdb_g h
  obtain ⟨V4, e4, h⟩ := rdb_g h
  obtain ⟨V5, e5, h⟩ := rdb_g h
  obtain ⟨V6, e6, h⟩ := rdb_g h
  obtain ⟨V7, e7, h⟩ := rdb_g h
  obtain ⟨V8, e8, h⟩ := rdb_g h
  obtain ⟨V9, h9, -, h⟩ := h
  have h : U = V9 := h
  subst h
  obtain ⟨f1, f2⟩ := q_fill h9
  have ec : U c = up1 (up1 (up1 (up1 (up1 (up1 (up1 (up1 (V c) 0 1) 1 p) 2 w) 3 d) 4 0) 5 0) 6 0) 7 (-1) := by
    rw [f1 c (by omega), ← e8, up2_row, ← e7, up2_row, ← e6, up2_row, ← e5, up2_row, ← e4, up2_row, ← e3, up2_row, ← e2, up2_row, ← e1, up2_row]
  refine ⟨fun i hi h2 => ?_, ?_, f2⟩
  · rw [f1 i h2, ← e8, up2_c _ _ hi, ← e7, up2_c _ _ hi, ← e6, up2_c _ _ hi, ← e5, up2_c _ _ hi, ← e4, up2_c _ _ hi, ← e3, up2_c _ _ hi, ← e2, up2_c _ _ hi, ← e1, up2_c _ _ hi]
  · rw [ec]
    exact ⟨rfl, rfl, rfl, rfl, rfl, rfl, rfl, rfl⟩
theorem q_mFill {x : Nat} {w r : Int} {V U : Nat → Nat → Int} {b : (Int → (Nat → Nat → Int) → (Int × (Nat → Nat → Int)) → Prop) → Int → (Nat → Nat → Int) → (Int × (Nat → Nat → Int)) → Prop}
    (hb : b = (fun rc46 (z45 : Int) (V46 : Nat → Nat → Int) => (if 7 ≤ z45 then rtn (1, V46) else rdb (up2 V46 1 ((7 * (x : Int) + z45 + 24).toNat) w) fun V50 => rc46 (z45 + 1) V50))) (h : lop2 9 b 0 V (r, U)) :
    r = 1 ∧ (∀ i : Nat, i ≠ 1 → U i = V i) ∧ (∀ j : Nat, j < 7 → U 1 (24 + 7 * x + j) = w) ∧ ∀ k : Nat, ¬ (24 + 7 * x ≤ k ∧ k < 31 + 7 * x) → U 1 k = V 1 k := by
  have key : ∀ (n : Nat) (z : Nat) (W : Nat → Nat → Int), z ≤ 7 → (∀ i : Nat, i ≠ 1 → W i = V i) → (∀ j : Nat, j < z → W 1 (24 + 7 * x + j) = w) → (∀ k : Nat, ¬ (24 + 7 * x ≤ k ∧ k < 31 + 7 * x) → W 1 k = V 1 k) → lop2 n b (z : Int) W (r, U) → r = 1 ∧ (∀ i : Nat, i ≠ 1 → U i = V i) ∧ (∀ j : Nat, j < 7 → U 1 (24 + 7 * x + j) = w) ∧ ∀ k : Nat, ¬ (24 + 7 * x ≤ k ∧ k < 31 + 7 * x) → U 1 k = V 1 k := by
    intro n
    induction n with
    | zero => intro z W _ _ _ _ h; exact False.elim h
    | succ n ih =>
      intro z W hz h1 h2 h3 h
      rw [lop2_s hb] at h
      by_cases g : (7 : Int) ≤ z
      · rw [if_pos g] at h
        simp only [rtn, Prod.mk.injEq] at h
        obtain ⟨rfl, rfl⟩ := h
        exact ⟨rfl, h1, fun j hj => h2 j (by omega), h3⟩
      · rw [if_neg g] at h
        have ei : (7 * (x : Int) + (z : Int) + 24).toNat = 24 + 7 * x + z := by omega
        refine ih (z + 1) _ (by omega) (fun i hi => ?_) (fun j hj => ?_) (fun k hk => ?_) (by rw [Int.natCast_add]; exact h)
        · rw [up2_c _ _ hi]; exact h1 i hi
        · rw [ei]
          by_cases e : j = z
          · rw [e, up2_s]
          · rw [up2_n _ _ (Or.inr (by omega))]; exact h2 j (by omega)
        · rw [ei, up2_n _ _ (Or.inr (by omega))]
          exact h3 k hk
  exact key 9 0 V (by omega) (fun _ _ => rfl) (fun j hj => absurd hj (by omega)) (fun _ _ => rfl) h
theorem w_plant {x p w d a b : Int} {V V2 J W Jm X : Nat → Nat → Int} {R Rm : Nat → Nat → Nat} (h : WR R V W) (hx : f_s_plant x p w d V J R (a, V2)) (hm : f_m_plant x p w d W Jm Rm (b, X)) : a = b ∧ WR R V2 X := by
  unfold f_s_plant at hx
  unfold f_m_plant at hm
  obtain ⟨z1, h1, -, hx⟩ := hx
  obtain ⟨y1, k1, -, hm⟩ := hm
  have h1 := q_sPlace h1
  have e1 : z1 = y1 := h1.eq (q_mIn k1) (by omega)
  subst e1
  by_cases g1 : z1 = 0
  · rw [if_pos g1] at hx hm
    exact h.same hx hm
  rw [if_neg g1] at hx hm
  have g1 := h1.on g1
  obtain ⟨z5, h5, -, hx⟩ := hx
  obtain ⟨y5, k5, -, hm⟩ := hm
  have h5 := q_sWithin h5
  have e5 : z5 = y5 := h5.eq (q_mIn k5) (by omega)
  subst e5
  by_cases g5 : z5 = 0
  · rw [if_neg (fun hh => hh g5)] at hx
    rw [if_pos g5] at hm
    exact h.same hx hm
  rw [if_pos g5] at hx
  rw [if_neg g5] at hm
  have g5 := h5.on g5
  obtain ⟨z8, h8, -, hx⟩ := hx
  obtain ⟨y8, k8, -, hm⟩ := hm
  have h8 := q_sWithin h8
  have e8 : z8 = y8 := h8.eq (q_mIn k8) (by omega)
  subst e8
  by_cases g8 : z8 = 0
  · rw [if_pos g8] at hx hm
    exact h.same hx hm
  rw [if_neg g8] at hx hm
  have g8 := h8.on g8
  obtain ⟨z12, h12, -, hx⟩ := hx
  obtain ⟨y12, k12, -, hm⟩ := hm
  have h12 := q_sWithin h12
  have e12 : z12 = y12 := h12.eq (q_mIn k12) (by omega)
  subst e12
  by_cases g12 : z12 = 0
  · rw [if_neg (fun hh => hh g12)] at hx hm
    exact h.same hx hm
  rw [if_pos g12] at hx hm
  have g12 := h12.on g12
  clear h1 k1 h5 k5 h8 k8 h12 k12
  obtain ⟨n, rfl⟩ : ∃ n : Nat, x = (n : Int) := ⟨x.toNat, by omega⟩
  have hn : n < 4 := by omega
  obtain ⟨c, ec, hx⟩ := rdb_g hx
  obtain ⟨U, hU, -, hx⟩ := hx
  simp only [rtn, Prod.mk.injEq] at hx
  obtain ⟨rfl, rfl⟩ := hx
  rw [Int.toNat_natCast] at ec
  subst ec
  obtain ⟨u1, u2, u3⟩ := q_tell hU
  obtain ⟨s, f1, hm⟩ := rdb_g hm
  obtain ⟨s2, f2, hm⟩ := rdb_g hm
  obtain ⟨s3, f3, hm⟩ := rdb_g hm
  obtain ⟨W1, f4, hm⟩ := rdb_g hm
  obtain ⟨s5, f5, hm⟩ := rdb_g hm
  obtain ⟨s6, f6, hm⟩ := rdb_g hm
  obtain ⟨s7, f7, hm⟩ := rdb_g hm
  obtain ⟨s8, f8, hm⟩ := rdb_g hm
  obtain ⟨W2, f9, hm⟩ := rdb_g hm
  obtain ⟨W3, f10, hm⟩ := rdb_g hm
  obtain ⟨W4, f11, hm⟩ := rdb_g hm
  obtain ⟨W5, f12, hm⟩ := rdb_g hm
  obtain ⟨W6, f13, hm⟩ := rdb_g hm
  obtain ⟨W7, f14, hm⟩ := rdb_g hm
  obtain ⟨W8, f15, hm⟩ := rdb_g hm
  obtain ⟨m1, m2, m3, m4⟩ := q_mFill rfl hm
  refine ⟨m1.symm, ?_⟩
  have hRL := h.1.1
  have r76 := hRL.2.2.2.2.2.1
  have r77 := hRL.2.2.2.2.2.2.1
  have o76 := bt_or (s := W 1 76) (p := n) ⟨r76.1, by omega⟩ ⟨by omega, by omega⟩
  have q76 := bt_or4 (s := W 1 76) (p := n) r76 ⟨by omega, by omega⟩
  have o77 := bt_cl (s := W 1 77) (p := n) r77 ⟨by omega, by omega⟩
  rw [← f5, ← f4, up2_n _ _ (Or.inr (by decide))] at f8
  have w8 : ∀ i : Nat, i ≠ 1 → W8 i = W i := fun i hi => by rw [← f15, up2_c _ _ hi, ← f14, up2_c _ _ hi, ← f13, up2_c _ _ hi, ← f12, up2_c _ _ hi, ← f11, up2_c _ _ hi, ← f10, up2_c _ _ hi, ← f9, up2_c _ _ hi, ← f4, up2_c _ _ hi]
  have e4 : ((n : Int) + 4).toNat = 4 + n := by omega
  have e8 : ((n : Int) + 8).toNat = 8 + n := by omega
  have e12 : ((n : Int) + 12).toNat = 12 + n := by omega
  have e16 : ((n : Int) + 16).toNat = 16 + n := by omega
  have e20 : ((n : Int) + 20).toNat = 20 + n := by omega
  have r8 : W8 1 = up1 (up1 (up1 (up1 (up1 (up1 (up1 (up1 (W 1) 76 s3) 77 s8) n p) (4 + n) w) (8 + n) d) (12 + n) 0) (16 + n) 0) (20 + n) (-2) := by
    rw [← f15, up2_row, ← f14, up2_row, ← f13, up2_row, ← f12, up2_row, ← f11, up2_row, ← f10, up2_row, ← f9, up2_row, ← f4, up2_row, e4, e8, e12, e16, e20, Int.toNat_natCast]
  have x76 : X 1 76 = iOr (W 1 76) (iShl 1 n) := by
    rw [m4 76 (by omega), r8, up1_of (by omega), up1_of (by omega), up1_of (by omega), up1_of (by omega), up1_of (by omega), up1_of (by omega), up1_of (by omega), up1_at, ← f3, ← f2, ← f1]
  have x77 : X 1 77 = iAnd (W 1 77) (iXor (iShl 1 n) (-1)) := by
    rw [m4 77 (by omega), r8, up1_of (by omega), up1_of (by omega), up1_of (by omega), up1_of (by omega), up1_of (by omega), up1_of (by omega), up1_at, ← f8, ← f7, ← f6]
  have xo : ∀ k : Nat, k < 81 → k ≠ n → k ≠ 4 + n → k ≠ 8 + n → k ≠ 12 + n → k ≠ 16 + n → k ≠ 20 + n → ¬ (24 + 7 * n ≤ k ∧ k < 31 + 7 * n) → k ≠ 76 → k ≠ 77 → X 1 k = W 1 k := fun k _ k1 k2 k3 k4 k5 k6 k7 k8 k9 => by
    rw [m4 k k7, r8, up1_of k6, up1_of k5, up1_of k4, up1_of k3, up1_of k2, up1_of k1, up1_of k9, up1_of k8]
  have b76 : bt (X 1 76) n = 1 := by rw [x76, o76.2 n ⟨by omega, by omega⟩, if_pos rfl]
  have b77 : bt (X 1 77) n = 0 := by rw [x77, o77.2 n ⟨by omega, by omega⟩, if_pos rfl]
  obtain ⟨v0, v1, v2, v3, v4, v5, v6, v7⟩ := u2
  refine h.land1 ⟨hRL.pl hn (fun i i1 i2 i3 i4 => u1 i (by omega) (by omega)) xo ⟨by rw [x76]; exact q76, fun l hl hne => by rw [x76, o76.2 l ⟨by omega, by omega⟩, if_neg (by omega)]⟩ ⟨by rw [x77]; exact o77.1, fun l hl hne => by rw [x77, o77.2 l ⟨by omega, by omega⟩, if_neg (by omega)]⟩ ?_, ?_⟩ (fun i hi => u1 i (by omega) (by omega)) (fun i hi => by rw [m2 i hi, w8 i hi])
  · show RPl (V2 (1 + 3 + 2 * n)) (V2 (1 + 3 + 2 * n + 1)) (X 1) n
    have x0 : X 1 n = p := by rw [m4 n (by omega), r8, up1_of (by omega), up1_of (by omega), up1_of (by omega), up1_of (by omega), up1_of (by omega), up1_at]
    have x4 : X 1 (4 + n) = w := by rw [m4 (4 + n) (by omega), r8, up1_of (by omega), up1_of (by omega), up1_of (by omega), up1_of (by omega), up1_at]
    have x8 : X 1 (8 + n) = d := by rw [m4 (8 + n) (by omega), r8, up1_of (by omega), up1_of (by omega), up1_of (by omega), up1_at]
    have x12 : X 1 (12 + n) = 0 := by rw [m4 (12 + n) (by omega), r8, up1_of (by omega), up1_of (by omega), up1_at]
    have x16 : X 1 (16 + n) = 0 := by rw [m4 (16 + n) (by omega), r8, up1_of (by omega), up1_at]
    have x20 : X 1 (20 + n) = -2 := by rw [m4 (20 + n) (by omega), r8, up1_at]
    unfold RPl dedX
    rw [b76, b77, x0, x4, x8, x12, x16, x20, v0, v1, v2, v3, v4, v5, v6, v7]
    exact ⟨rfl, rfl, rfl, rfl, rfl, rfl, fun j hj => by rw [u3 j hj, m3 j hj], fun _ => Or.inl ⟨rfl, rfl⟩, by omega, by omega, by omega, by omega, by omega, by omega⟩
  · rw [xo 79 (by decide) (by omega) (by omega) (by omega) (by omega) (by omega) (by omega) (by omega) (by decide) (by decide)]
    exact h.1.2
theorem w_person {x k t a b : Int} {V V2 J W Jm X : Nat → Nat → Int} {R Rm : Nat → Nat → Nat} (h : WR R V W) (hx : f_s_person x k t V J R (a, V2)) (hm : f_m_person x k t W Jm Rm (b, X)) : a = b ∧ WR R V2 X := by
  unfold f_s_person at hx
  unfold f_m_person at hm
  obtain ⟨z1, h1, -, hx⟩ := hx
  obtain ⟨y1, k1, -, hm⟩ := hm
  have h1 := q_sPlace h1
  have e1 : z1 = y1 := h1.eq (q_mIn k1) (by omega)
  subst e1
  by_cases g1 : z1 = 0
  · rw [if_pos g1] at hx hm
    exact h.same hx hm
  rw [if_neg g1] at hx hm
  have g1 := h1.on g1
  obtain ⟨z5, h5, -, hx⟩ := hx
  obtain ⟨y5, k5, -, hm⟩ := hm
  have h5 := q_sWithin h5
  have e5 : z5 = y5 := h5.eq (q_mIn k5) (by omega)
  subst e5
  by_cases g5 : z5 = 0
  · rw [if_pos g5] at hx hm
    exact h.same hx hm
  rw [if_neg g5] at hx hm
  have g5 := h5.on g5
  obtain ⟨z8, h8, -, hx⟩ := hx
  obtain ⟨y8, k8, -, hm⟩ := hm
  have h8 := q_sPlace h8
  have e8 : z8 = y8 := h8.eq (q_mIn k8) (by omega)
  subst e8
  by_cases g8 : z8 = 0
  · rw [if_neg (fun hh => hh g8)] at hx hm
    exact h.same hx hm
  rw [if_pos g8] at hx hm
  have g8 := h8.on g8
  clear h1 k1 h5 k5 h8 k8
  obtain ⟨n, rfl⟩ : ∃ n : Nat, x = (n : Int) := ⟨x.toNat, by omega⟩
  have hn : n < 8 := by omega
  have hRL := h.1.1
  have r78 := hRL.2.2.2.2.2.2.2.1
  have o78 := bt_or (s := W 1 78) (p := n) r78 ⟨by omega, by omega⟩
  have n78 := cnt_or (s := W 1 78) (p := n) r78 ⟨by omega, by omega⟩
  have cr := cnt_r (W 1 78)
  have br := bt_r (W 1 78) n
  obtain ⟨U, hU, -, hx⟩ := hx
  simp only [rtn, Prod.mk.injEq] at hx
  obtain ⟨rfl, rfl⟩ := hx
  unfold f_s_tellPerson at hU
  obtain ⟨c, ec, hU⟩ := rdb_g hU
  rw [Int.toNat_natCast, Nat.one_mul] at ec
  obtain ⟨z2, e2, hU⟩ := rdb_g hU
  obtain ⟨z3, e3, hU⟩ := rdb_g hU
  obtain ⟨-, hU⟩ := hU
  have hU := jnk_if hU
  obtain ⟨z6, e6, hU⟩ := rdb_g hU
  obtain ⟨V7, e7, hU⟩ := rdb_g hU
  obtain ⟨V8, e8, hU⟩ := rdb_g hU
  obtain ⟨V9, e9, hU⟩ := rdb_g hU
  obtain ⟨V10, e10, hU⟩ := rdb_g hU
  obtain ⟨V11, e11, hU⟩ := rdb_g hU
  have hU : V2 = V11 := hU
  subst hU
  obtain ⟨s, f1, hm⟩ := rdb_g hm
  obtain ⟨s2, f2, hm⟩ := rdb_g hm
  obtain ⟨s3, f3, hm⟩ := rdb_g hm
  obtain ⟨W1, f4, hm⟩ := rdb_g hm
  obtain ⟨W2, f5, hm⟩ := rdb_g hm
  obtain ⟨W3, f6, hm⟩ := rdb_g hm
  obtain ⟨W4, f7, hm⟩ := rdb_g hm
  simp only [rtn, Prod.mk.injEq] at hm
  obtain ⟨rfl, rfl⟩ := hm
  refine ⟨rfl, ?_⟩
  have e52 : ((n : Int) + 52).toNat = 52 + n := by omega
  have e60 : ((n : Int) + 60).toNat = 60 + n := by omega
  have e68 : ((n : Int) + 68).toNat = 68 + n := by omega
  have xr : X 1 = up1 (up1 (up1 (up1 (W 1) 78 s3) (52 + n) k) (60 + n) t) (68 + n) 0 := by
    rw [← f7, up2_row, ← f6, up2_row, ← f5, up2_row, ← f4, up2_row, e52, e60, e68]
  have x78 : X 1 78 = iOr (W 1 78) (iShl 1 n) := by
    rw [xr, up1_of (by omega), up1_of (by omega), up1_of (by omega), up1_at, ← f3, ← f2, ← f1]
  have xo : ∀ k : Nat, k < 81 → k ≠ 52 + n → k ≠ 60 + n → k ≠ 68 + n → k ≠ 78 → X 1 k = W 1 k := fun k _ k1 k2 k3 k4 => by
    rw [xr, up1_of k3, up1_of k2, up1_of k1, up1_of k4]
  have hP := hRL.2.1 n hn
  have ec0 : c = 1 + 11 + n := by omega
  subst ec0
  have vr : V2 (1 + 11 + n) = up1 (up1 (up1 (up1 (V (1 + 11 + n)) 0 1) 1 k) 2 t) 3 0 := by
    rw [← e11, up2_row, ← e10, up2_row, ← e9, up2_row, ← e8, up2_row, ← e7, up2_c _ _ (by omega)]
  have vo : ∀ i : Nat, i ≠ 1 + 11 + n → i ≠ 1 → V2 i = V i := fun i i1 i2 => by
    rw [← e11, up2_c _ _ i1, ← e10, up2_c _ _ i1, ← e9, up2_c _ _ i1, ← e8, up2_c _ _ i1, ← e7, up2_c _ _ i2]
  have v1 : V2 1 = up1 (V 1) 2 z6 := by
    rw [← e11, up2_c _ _ (by omega), ← e10, up2_c _ _ (by omega), ← e9, up2_c _ _ (by omega), ← e8, up2_c _ _ (by omega), ← e7, up2_row]
  have ez6 : z6 = cnt (X 1 78) := by
    have a2 : V 1 2 = cnt (W 1 78) := hRL.2.2.1
    have a3 : V (1 + 11 + n) 0 = bt (W 1 78) n := hP.1
    rw [x78, n78, ← e6]
    by_cases g : z3 = 0
    · rw [if_pos g]
      have := wr_id (z := z2 + 1) ⟨by omega, by omega⟩
      omega
    · rw [if_neg g]
      have := wr_id (z := z2 + 0) ⟨by omega, by omega⟩
      omega
  refine h.land1 ⟨hRL.pe hn (fun i i1 i2 i3 => vo i i3 (by omega)) ⟨?_, by rw [v1]; rfl, by rw [v1]; rfl⟩ xo ⟨by rw [x78]; exact o78.1, fun l hl hne => by rw [x78, o78.2 l ⟨by omega, by omega⟩, if_neg (by omega)]⟩ ?_, ?_⟩ (fun i hi => vo i (by omega) (by omega)) (fun i hi => ?_)
  · rw [v1, up1_at]; exact ez6
  · show RPe (V2 (1 + 11 + n)) (X 1) n
    unfold RPe
    rw [x78, o78.2 n ⟨by omega, by omega⟩, if_pos rfl, vr, xr]
    refine ⟨rfl, ?_, ?_, ?_⟩
    · rw [up1_of (k := 68 + n) (by omega), up1_of (k := 60 + n) (by omega), up1_at]; rfl
    · rw [up1_of (k := 68 + n) (by omega), up1_at]; rfl
    · rw [up1_at (k := 68 + n)]; rfl
  · rw [xo 79 (by decide) (by omega) (by omega) (by omega) (by decide)]
    exact h.1.2
  · rw [← f7, up2_c _ _ hi, ← f6, up2_c _ _ hi, ← f5, up2_c _ _ hi, ← f4, up2_c _ _ hi]
end
