-- reading: brackets of conditions, level by level (own work)
theorem KX.ent {t : Nat} {V : Nat → Nat → Int} {x y : Int} (ht : isTx t) : KX t V (up2 (up2 V 72 4 x) 72 2 y) := by
  have tn := tx_ne ht
  exact ⟨fun i i1 _ _ => by rw [up2_c _ _ i1, up2_c _ _ i1], fun k hk => by rw [up2_n _ _ (Or.inl tn.1.1), up2_n _ _ (Or.inl tn.1.1)], by rw [up2_n _ _ (Or.inr (by decide)), up2_n _ _ (Or.inr (by decide))]⟩
theorem KX.lev {t : Nat} {V : Nat → Nat → Int} {x y : Int} (ht : isTx t) : KX t V (up2 (up2 V 72 2 y) 72 4 x) := by
  have tn := tx_ne ht
  exact ⟨fun i i1 _ _ => by rw [up2_c _ _ i1, up2_c _ _ i1], fun k hk => by rw [up2_n _ _ (Or.inl tn.1.1), up2_n _ _ (Or.inl tn.1.1)], by rw [up2_n _ _ (Or.inr (by decide)), up2_n _ _ (Or.inr (by decide))]⟩
/-- a bracket is begun on both sides -/
theorem RS1.opn {t : Nat} {d s x : Int} {V V1 W : Nat → Nat → Int} (h : RS1 t d s V W []) (ht : isTx t) (hlt : W 0 5 < W 0 6) (e : V1 = up2 (up2 V 72 4 (d + 1)) 72 2 (V 72 2 + 1)) : RS1 t (d + 1) (s + 1) V1 (opnd W x) [] := by
  have tn := tx_ne ht
  obtain ⟨s1, s2, s3, s4, s5, s6⟩ := h
  have sp := s1.2.2.1
  have ov := opnd_v W x
  have hV1 : ∀ k : Nat, k ≠ 2 → k ≠ 4 → V1 72 k = V 72 k := fun k a1 a2 => by rw [e, up2_n _ _ (Or.inr a1), up2_n _ _ (Or.inr a2)]
  have hV1o : ∀ i : Nat, i ≠ 72 → V1 i = V i := fun i hi => by rw [e, up2_c _ _ hi, up2_c _ _ hi]
  refine ⟨s1.to (by rw [e, up2_s, ov.1, s1.1]) (hV1 3 (by decide) (by decide)) (opnd_0 W x (by decide) (by decide) (by decide)) (by rw [ov.1]; omega) (hV1o 58 (by decide)) (hV1o 59 (by decide)) (opnd_r W x (by decide) (by decide)), s2.to (by rw [hV1o t tn.1.1]) (hV1o _ tn.1.2) (opnd_0 W x (by decide) (by decide) (by decide)) (opnd_r W x (by decide) (by decide)), ?_, by rw [ov.2.2]; omega, by omega, ?_⟩
  · rw [e, up2_n _ _ (Or.inr (by decide)), up2_s]
  · rw [hV1o t tn.1.1, ov.1]; omega
theorem KM.opn {W : Nat → Nat → Int} {x : Int} (h : 0 ≤ W 0 11) : KM (W 0 11) W (opnd W x) := ⟨fun j hj => by rw [opnd_6, if_neg (by omega)], fun i i1 i2 i3 => opnd_r W x i1 i3, opnd_0 W x (by decide) (by decide) (by decide), opnd_0 W x (by decide) (by decide) (by decide), opnd_0 W x (by decide) (by decide) (by decide)⟩
theorem wtop_opn {W : Nat → Nat → Int} {x : Int} (h : 0 ≤ W 0 11) (hx : 0 ≤ x ∧ x ≤ 14) : wtop (opnd W x) = x := by
  have ov := opnd_v W x
  unfold wtop
  rw [ov.2.1, if_neg (by omega), show (W 0 11 + 1 - 1).toNat = (W 0 11).toNat by omega, opnd_6, if_pos rfl]
  exact (iDiv_p (by omega) (by decide)).trans (by omega)
theorem KM.cls {n : Int} {X : Nat → Nat → Int} : KM n X (clsd X) := ⟨fun j _ => by rw [clsd_r X (by decide)], fun i i1 _ _ => clsd_r X i1, clsd_0 X (by decide) (by decide) (by decide), clsd_0 X (by decide) (by decide) (by decide), clsd_0 X (by decide) (by decide) (by decide)⟩
theorem BRC.of {d : Int} {ent sm cnd : ((Nat → Nat → Int) → (Nat → Nat → Int) → (Nat → Nat → Nat) → Int × (Nat → Nat → Int) → Prop)} (hE : ENT d ent) (hF : LV 13 (d + 1) cnd) (hd : 0 ≤ d ∧ d ≤ 5) : BRC d (brkX d ent sm cnd) := by
  intro t s a V W J Jm U R Rm r ht hR hS h0 h40 hx hm
  have tn := tx_ne ht
  have hlt := sgn_lt (W := W) (by omega)
  have sp := hS.1.2.2.1
  have hs := hS.2.2.2.2.1
  unfold brkX at hx
  obtain ⟨z1, V1, h1, -, -, hx⟩ := hx
  obtain ⟨k1, k2⟩ := hE z1 V J V1 R (by have := hS.1.1; omega) h1
  rw [if_pos (by omega), if_neg (fun hh => hh rfl)] at hx
  obtain ⟨z5, V5, h5, -, z5r, hx⟩ := hx
  have S1 := hS.opn (x := 13) ht hlt k2
  have ov := opnd_v W 13
  have et := wtop_opn (x := 13) h0 (by decide)
  rcases hF t (s + 1) z5 V1 (opnd W 13) J Jm V5 R Rm r ht hR S1 ⟨by omega, by omega, by omega⟩ h5 hm with ⟨f1, X, P, f2, f3, f4, f5, f6, f7, f8, f9, f10, f11⟩ | hbad
  · rw [if_neg (by omega)] at hx
    obtain ⟨z8, V8, h8, -, z8r, hx⟩ := hx
    obtain ⟨u1, u2, u3, u4, u5, u6⟩ := f3
    have fp := u1.2.2.1
    rw [ov.2.1] at f4 f6
    rcases q_sign u1 h8 with ⟨g1, g2, g3⟩ | ⟨g1, g2, g3⟩
    · rw [if_pos (by omega)] at hx
      obtain ⟨V10, e10, hx⟩ := rdb_g hx
      simp only [rtn, Prod.mk.injEq] at hx
      have hltX := sgn_lt (W := X) (by omega)
      obtain ⟨Y, ⟨nY, hY⟩, hY2⟩ := f2.cls g1
      have e13 : iDiv (X 6 (W 0 11 + 1 - 1).toNat) 1048576 = 13 := by
        rw [show (W 0 11 + 1 - 1).toNat = (W 0 11).toNat by omega, f6.1 _ (by omega), opnd_6, if_pos rfl]
        exact (iDiv_p (by decide) (by decide)).trans (by decide)
      obtain ⟨y1, y2, y3, y4, y5⟩ := landed (t := t) (m := 12) (V := V5) (Or.inr rfl) (by omega) P nY X Y u2 f4 (fun p hp => by have := f5 p hp; omega) (by omega) (by rw [e13]; decide) (by rw [show (12 : Int) - 11 = 1 by decide]; exact hY)
      have y9 := y4 9 (by decide)
      have yp := y4 5 (by decide)
      have yl := y4 6 (by decide)
      obtain ⟨y10, y11⟩ := hY2 (by omega)
      have cv := clsd_v Y
      have hU : U = up2 (up2 V5 72 2 (X 0 5 + 1)) 72 4 d := by rw [hx.2, ← e10, g3]
      have KY : KM (W 0 11) W (clsd Y) := ((KM.opn h0).tr f6 (by omega)).tr (KM.tr (m := W 0 11) (X := Y) ⟨fun j _ => by rw [y3], fun i i1 i2 i3 => y5 i i1 i2, yl, y4 12 (by decide), y4 4 (by decide)⟩ KM.cls (Int.le_refl _)) (by omega)
      refine Or.inl ⟨hx.1, clsd Y, fun g => y10 (by omega), fun g => y11 (by omega), ⟨u1.to ?_ ?_ ?_ ?_ ?_ ?_ ?_, ?_, ?_, by omega, hs, ?_⟩, by omega, KY, ?_, ?_, ?_⟩
      · rw [hU, up2_n _ _ (Or.inr (by decide)), up2_s, cv.1, yp]
      · rw [hU, up2_n _ _ (Or.inr (by decide)), up2_n _ _ (Or.inr (by decide))]
      · rw [clsd_0 Y (by decide) (by decide) (by decide), yl]
      · rw [cv.1, yp]; omega
      · rw [hU, up2_c _ _ (by decide), up2_c _ _ (by decide)]
      · rw [hU, up2_c _ _ (by decide), up2_c _ _ (by decide)]
      · rw [clsd_r Y (by decide), y5 4 (by decide) (by decide)]
      · rw [hU]
        exact y1.ca.to (by rw [up2_n _ _ (Or.inl tn.1.1), up2_n _ _ (Or.inl tn.1.1)]) (by rw [up2_c _ _ tn.1.2, up2_c _ _ tn.1.2]) (clsd_0 Y (by decide) (by decide) (by decide)) (clsd_r Y (by decide))
      · rw [hU, up2_s]
      · rw [hU, up2_n _ _ (Or.inl tn.1.1), up2_n _ _ (Or.inl tn.1.1), cv.1, yp]; omega
      · rw [hU]
        exact ((show KX t V V1 by rw [k2]; exact KX.ent ht).tr f7).tr (KX.lev ht)
      · rw [cv.1, yp]; rw [ov.1] at f8; omega
      · rw [hU]
        exact f11.cg (by rw [k2, up2_n _ _ (Or.inl tn.1.1), up2_n _ _ (Or.inl tn.1.1)]) (by rw [k2, up2_c _ _ tn.1.2, up2_c _ _ tn.1.2]) (by rw [up2_n _ _ (Or.inl tn.1.1), up2_n _ _ (Or.inl tn.1.1)]) (by rw [up2_c _ _ tn.1.2, up2_c _ _ tn.1.2])
    · rw [if_neg (fun hh => hh g2)] at hx
      simp only [rtn, Prod.mk.injEq] at hx
      obtain ⟨X2, d3, d4⟩ := f2.bad g1 (f9 (by decide)) (f10 (by decide)) ⟨by omega, by omega⟩
      exact Or.inr ⟨hx.1, X2, d3, by rw [hx.2, g3, up2_s, d4]; exact ⟨rfl, by omega⟩⟩
  · rw [if_pos hbad.1] at hx
    simp only [rtn, Prod.mk.injEq] at hx
    exact Or.inr ⟨hx.1, by obtain ⟨-, X, x1, x2⟩ := hbad; exact ⟨X, x1, by rw [hx.2]; exact x2⟩⟩
theorem notd_v (W : Nat → Nat → Int) : notd W 0 9 = W 0 9 - 1 ∧ notd W 0 10 = W 0 10 + 1 ∧ notd W 0 11 = W 0 11 - 1 ∧ (∀ k : Nat, k ≠ 9 → k ≠ 10 → k ≠ 11 → notd W 0 k = W 0 k) ∧ (∀ k : Nat, notd W 5 k = if k = (W 0 10).toNat then 1048576 * 10 + 0 else W 5 k) ∧ ∀ i : Nat, i ≠ 0 → i ≠ 5 → notd W i = W i := by
  unfold notd
  refine ⟨up2_s _ _ _ _, ?_, ?_, fun k k1 k2 k3 => ?_, fun k => ?_, fun i i1 i2 => ?_⟩
  · rw [up2_n _ _ (Or.inr (by decide)), clo_10]
  · rw [up2_n _ _ (Or.inr (by decide)), clo_11]
  · rw [up2_n _ _ (Or.inr k1), clo_0 W 10 k2 k3]
  · rw [up2_n _ _ (Or.inl (by decide)), clo_5]
  · rw [up2_c _ _ i1, clo_r W 10 i1 i2]
theorem PIES.cmp {d a : Int} {sm : ((Nat → Nat → Int) → (Nat → Nat → Int) → (Nat → Nat → Nat) → Int × (Nat → Nat → Int) → Prop)} (hF : SUMS d sm) (hd : 1 ≤ d ∧ d ≤ 6) {t : Nat} {s : Int} {V W J Jm U : Nat → Nat → Int} {R Rm : Nat → Nat → Nat} {r : Int × (Nat → Nat → Int)} (ht : isTx t) (hR : R 72 1 = t) (hS : RS1 t d s V W []) (hT : TOP 10 W) (h40 : ¬ sgnZ W = 40) (h33 : ¬ sgnZ W = 33) (hx : cmpX sm V J R (a, U)) (hm : RCz Jm Rm W r) :
    (a = 1 ∧ ∃ X : Nat → Nat → Int, RE Jm Rm X r ∧ RS1 t d s U X [] ∧ X 0 11 = W 0 11 ∧ KM (W 0 11) W X ∧ KX t V U ∧ W 0 5 < X 0 5 ∧ CR t V U) ∨ BAD a U r := by
  obtain ⟨q, Y, hq, -, m1, m2⟩ := hm.cmp h33 h40
  rcases CMPS.of hF hd ht hR hS hT hx hq with ⟨f1, f2, X, ⟨n, f3⟩, f4⟩ | ⟨f1, f2, f3⟩
  · exact Or.inl ⟨f1, X, ⟨n, Y, f3, m2 f2⟩, f4⟩
  · exact Or.inr ⟨f1, Y, m1 f2, f3⟩
theorem PIES.of {d : Int} {ent sm pie : ((Nat → Nat → Int) → (Nat → Nat → Int) → (Nat → Nat → Nat) → Int × (Nat → Nat → Int) → Prop)} {brk : Int → ((Nat → Nat → Int) → (Nat → Nat → Int) → (Nat → Nat → Nat) → Int × (Nat → Nat → Int) → Prop)} (hE : ENT d ent) (hF : SUMS d sm) (hP : PIES (d + 1) pie) (hB : BRC d brk) (hd : 1 ≤ d ∧ d ≤ 5) : PIES d (pieX d ent (cmpX sm) pie brk) := by
  intro t s a V W J Jm U R Rm r ht hR hS hT hx hm
  have tn := tx_ne ht
  have sp := hS.1.2.2.1
  have s4 := hS.2.2.2.1
  have hs := hS.2.2.2.2.1
  have hb := hT.1
  unfold pieX at hx
  obtain ⟨c, hc, hx⟩ := hx
  have hc := q_peek hS.1 hc
  subst hc
  by_cases g40 : sgnZ W = 40
  · rw [if_neg (fun hh => hh g40)] at hx
    obtain ⟨z, Y, hY, -, -, hx⟩ := hx
    simp only [rtn, Prod.mk.injEq] at hx
    obtain ⟨rfl, rfl⟩ := hx
    rcases hm.opn (Or.inr g40) (by omega) with ⟨o1, -⟩ | ⟨-, -, o2⟩
    · omega
    · rcases hB t s a V W J Jm U R Rm r ht hR hS (by omega) g40 hY (o2 g40) with ⟨f1, X, -, f3, f4⟩ | hb
      · exact Or.inl ⟨f1, X, f3 (by omega), f4⟩
      · exact Or.inr hb
  · rw [if_pos g40] at hx
    obtain ⟨c2, hc2, hx⟩ := hx
    have hc2 := q_peek hS.1 hc2
    subst hc2
    by_cases g33 : sgnZ W = 33
    · rw [if_pos g33] at hx
      have hlt := sgn_lt (W := W) (by omega)
      obtain ⟨z5, V5, h5, -, -, hx⟩ := hx
      obtain ⟨k1, k2⟩ := hE z5 V J V5 R (by have := hS.1.1; omega) h5
      rw [if_neg (by omega)] at hx
      obtain ⟨z8, V8, h8, -, z8r, hx⟩ := hx
      rcases hm.opn (Or.inl g33) (by omega) with ⟨o1, -⟩ | ⟨-, o2, -⟩
      · omega
      · have S1 := hS.opn (x := 10) ht hlt k2
        have ov := opnd_v W 10
        have et := wtop_opn (W := W) (x := 10) (by omega) (by decide)
        rcases hP t (s + 1) z8 V5 (opnd W 10) J Jm V8 R Rm r ht hR S1 ⟨by omega, by omega, by omega⟩ h8 (o2 g33) with ⟨f1, X, f2, f3, f4, f5, f6, f7, f8⟩ | hbad
        · rw [if_pos (by omega)] at hx
          obtain ⟨V11, e11, hx⟩ := rdb_g hx
          obtain ⟨t0, et0, hx⟩ := rdb_g hx
          rw [hR] at et0
          subst et0
          obtain ⟨V13, h13, -, hx⟩ := hx
          simp only [rtn, Prod.mk.injEq] at hx
          have ew := wtop_km f5 f4 (by omega)
          obtain ⟨u1, u2, u3, u4, u5, u6⟩ := f3
          have up := u1.2.2.1
          have ul : V8 t 1 = X 0 10 := by have := u2.2.1; simpa using this
          have ul0 := u2.1
          have eV11t : V11 t = V8 t := by rw [← e11, up2_c _ _ tn.1.1]
          have eV11s : V11 (t + 1) = V8 (t + 1) := by rw [← e11, up2_c _ _ tn.1.2]
          have hp13 := q_put h13 (by decide) (by decide) (by rw [eV11t]; omega)
          rw [eV11t] at hp13
          have hRE := f2.not (by omega) (by omega)
          obtain ⟨v1, v2, v3, v4, v5, v6⟩ := notd_v X
          have hU : U = up2 (up2 V11 (t + 1) (V8 t 1).toNat (10 + 16 * 0)) t 1 (V8 t 1 + 1) := by rw [hx.2, hp13]
          have U72 : ∀ k : Nat, k ≠ 4 → U 72 k = V8 72 k := fun k hk => by rw [hU, up2_n _ _ (Or.inl tn.1.1.symm), up2_n _ _ (Or.inl tn.1.2.symm), ← e11, up2_n _ _ (Or.inr hk)]
          have Uo : ∀ i : Nat, i ≠ 72 → i ≠ t → i ≠ t + 1 → U i = V8 i := fun i i1 i2 i3 => by rw [hU, up2_c _ _ i2, up2_c _ _ i3, ← e11, up2_c _ _ i1]
          rw [ov.2.1] at f4 f5
          refine Or.inl ⟨hx.1, notd X, hRE, ⟨u1.to ?_ (U72 3 (by decide)) (v4 6 (by decide) (by decide) (by decide)) (by rw [v4 5 (by decide) (by decide) (by decide)]; omega) (Uo 58 (by decide) tn.2.1.symm tn.2.2.2.1.symm) (Uo 59 (by decide) tn.2.2.1.symm tn.2.2.2.2.symm) (v6 4 (by decide) (by decide)), ?_, ?_, by omega, hs, ?_⟩, by omega, ?_, ?_, ?_, ?_⟩
          · rw [U72 2 (by decide), v4 5 (by decide) (by decide) (by decide)]; exact u1.1
          · have C := (u2.to (V2 := V11) (W2 := X) (by rw [eV11t]) eV11s rfl rfl).both (x := 10 + 16 * 0) (w := 1048576 * 10 + 0) (W2 := notd X) (by rw [show (10 : Int) + 16 * 0 = 10 by decide]; exact stw_op (by decide)) v2 v5
            rw [eV11t] at C
            rw [hU]; exact C
          · rw [hU, up2_n _ _ (Or.inl tn.1.1.symm), up2_n _ _ (Or.inl tn.1.2.symm), ← e11, up2_s]
          · rw [hU, up2_s, v4 5 (by decide) (by decide) (by decide)]; omega
          · exact ((KM.opn (by omega)).tr f5 (by omega)).tr (m := W 0 11) ⟨fun j _ => by rw [v6 6 (by decide) (by decide)], fun i i1 i2 i3 => v6 i i1 i2, v4 6 (by decide) (by decide) (by decide), v4 12 (by decide) (by decide) (by decide), v4 4 (by decide) (by decide) (by decide)⟩ (Int.le_refl _)
          · exact ((show KX t V V5 by rw [k2]; exact KX.ent ht).tr f6).tr ⟨Uo, fun k hk => by rw [hU, up2_n _ _ (Or.inr hk), up2_n _ _ (Or.inl (by omega)), eV11t], U72 3 (by decide)⟩
          · rw [v4 5 (by decide) (by decide) (by decide)]; rw [ov.1] at f7; omega
          · have C := (f8.cg (V := V) (U := V11) (by rw [k2, up2_n _ _ (Or.inl tn.1.1), up2_n _ _ (Or.inl tn.1.1)]) (by rw [k2, up2_c _ _ tn.1.2, up2_c _ _ tn.1.2]) (by rw [eV11t]) eV11s).not
            rw [eV11t] at C
            rw [hU]; exact C
        · rw [if_neg (by have := hbad.1; omega)] at hx
          simp only [rtn, Prod.mk.injEq] at hx
          obtain ⟨rfl, rfl⟩ := hx
          exact Or.inr ⟨rfl, hbad.2⟩
    · rw [if_neg g33] at hx
      obtain ⟨z, Y, hY, -, -, hx⟩ := hx
      simp only [rtn, Prod.mk.injEq] at hx
      obtain ⟨rfl, rfl⟩ := hx
      exact PIES.cmp hF ⟨hd.1, by omega⟩ ht hR hS hT g40 g33 hY hm
theorem pies6 : PIES 6 f_r_piece6 := by
  intro t s a V W J Jm U R Rm r ht hR hS hT hx hm
  have sp := hS.1.2.2.1
  have s4 := hS.2.2.2.1
  have e1 := hS.1.1
  have five : ∀ (z : Int) (Y : Nat → Nat → Int), f_r_enter6 V J R (z, Y) → z = 0 ∧ Y 72 5 = -5000 - W 0 5 := fun z Y h => by
    unfold f_r_enter6 at h
    obtain ⟨z2, V2, h2, -, -, h⟩ := h
    simp only [rtn, Prod.mk.injEq] at h
    obtain ⟨q1, q2⟩ := q_fail h2 (by decide) (by omega)
    refine ⟨h.1.trans q1, ?_⟩
    rw [h.2, q2, up2_s, e1]
    omega
  unfold f_r_piece6 at hx
  obtain ⟨c, hc, hx⟩ := hx
  have hc := q_peek hS.1 hc
  subst hc
  by_cases g40 : sgnZ W = 40
  · rw [if_neg (fun hh => hh g40)] at hx
    obtain ⟨z, Y, hY, -, -, hx⟩ := hx
    simp only [rtn, Prod.mk.injEq] at hx
    unfold f_r_bracket6 at hY
    obtain ⟨z1, V1, h1, -, -, hY⟩ := hY
    simp only [rtn, Prod.mk.injEq] at hY
    obtain ⟨q1, q2⟩ := five z1 V1 h1
    rcases hm.opn (Or.inr g40) (by omega) with ⟨-, X, o2, o3⟩ | ⟨o1, -⟩
    · exact Or.inr ⟨hx.1.trans hY.1, X, o2, by rw [hx.2, hY.2, q2, o3]; exact ⟨rfl, by omega⟩⟩
    · exact absurd s4 o1
  · rw [if_pos g40] at hx
    obtain ⟨c2, hc2, hx⟩ := hx
    have hc2 := q_peek hS.1 hc2
    subst hc2
    by_cases g33 : sgnZ W = 33
    · rw [if_pos g33] at hx
      obtain ⟨z, Y, hY, -, -, hx⟩ := hx
      simp only [rtn, Prod.mk.injEq] at hx
      obtain ⟨q1, q2⟩ := five z Y hY
      rcases hm.opn (Or.inl g33) (by omega) with ⟨-, X, o2, o3⟩ | ⟨o1, -⟩
      · exact Or.inr ⟨hx.1, X, o2, by rw [hx.2, q2, o3]; exact ⟨rfl, by omega⟩⟩
      · exact absurd s4 o1
    · rw [if_neg g33] at hx
      obtain ⟨z, Y, hY, -, -, hx⟩ := hx
      simp only [rtn, Prod.mk.injEq] at hx
      obtain ⟨rfl, rfl⟩ := hx
      rw [fx_cmp6] at hY
      exact PIES.cmp sums6 (by decide) ht hR hS hT g40 g33 hY hm
theorem cond_of {d : Int} {pie : ((Nat → Nat → Int) → (Nat → Nat → Int) → (Nat → Nat → Nat) → Int × (Nat → Nat → Int) → Prop)} (h : PIES d pie) (hd : 0 ≤ d ∧ d ≤ 6) : LV 13 d (prtX 124 12 (prtX 38 11 pie)) := by
  have h1 : LV 12 d (prtX 38 11 pie) := LV.of (m := 11) (c := 38) h.lv (Or.inl ⟨rfl, rfl⟩) hd
  exact LV.of (m := 12) (c := 124) h1 (Or.inr ⟨rfl, rfl⟩) hd
theorem cond6 : LV 13 6 f_r_condition6 := by rw [fx_cond6, fx_part6]; exact cond_of pies6 (by decide)
theorem brc5 : BRC 5 f_r_bracket5 := by rw [fx_brk5]; exact BRC.of ent5 cond6 (by decide)
theorem pies5 : PIES 5 f_r_piece5 := by rw [fx_pie5, fx_cmp5]; exact PIES.of ent5 sums5 pies6 brc5 (by decide)
theorem cond5 : LV 13 5 f_r_condition5 := by rw [fx_cond5, fx_part5]; exact cond_of pies5 (by decide)
theorem brc4 : BRC 4 f_r_bracket4 := by rw [fx_brk4]; exact BRC.of ent4 cond5 (by decide)
theorem pies4 : PIES 4 f_r_piece4 := by rw [fx_pie4, fx_cmp4]; exact PIES.of ent4 sums4 pies5 brc4 (by decide)
theorem cond4 : LV 13 4 f_r_condition4 := by rw [fx_cond4, fx_part4]; exact cond_of pies4 (by decide)
theorem brc3 : BRC 3 f_r_bracket3 := by rw [fx_brk3]; exact BRC.of ent3 cond4 (by decide)
theorem pies3 : PIES 3 f_r_piece3 := by rw [fx_pie3, fx_cmp3]; exact PIES.of ent3 sums3 pies4 brc3 (by decide)
theorem cond3 : LV 13 3 f_r_condition3 := by rw [fx_cond3, fx_part3]; exact cond_of pies3 (by decide)
theorem brc2 : BRC 2 f_r_bracket2 := by rw [fx_brk2]; exact BRC.of ent2 cond3 (by decide)
theorem pies2 : PIES 2 f_r_piece2 := by rw [fx_pie2, fx_cmp2]; exact PIES.of ent2 sums2 pies3 brc2 (by decide)
theorem cond2 : LV 13 2 f_r_condition2 := by rw [fx_cond2, fx_part2]; exact cond_of pies2 (by decide)
theorem brc1 : BRC 1 f_r_bracket1 := by rw [fx_brk1]; exact BRC.of ent1 cond2 (by decide)
theorem pies1 : PIES 1 f_r_piece1 := by rw [fx_pie1, fx_cmp1]; exact PIES.of ent1 sums1 pies2 brc1 (by decide)
theorem cond1 : LV 13 1 f_r_condition1 := by rw [fx_cond1, fx_part1]; exact cond_of pies1 (by decide)
theorem brc0 : BRC 0 f_r_bracket0 := by rw [fx_brk0]; exact BRC.of ent0 cond1 (by decide)
