-- reading: sums, level by level (own work)
def BRS (d : Int) (brk : Int → ((Nat → Nat → Int) → (Nat → Nat → Int) → (Nat → Nat → Nat) → Int × (Nat → Nat → Int) → Prop)) : Prop := ∀ (t : Nat) (s z4 a : Int) (V W J Jm U : Nat → Nat → Int) (R Rm : Nat → Nat → Nat) (r : Int × (Nat → Nat → Int)), isTx t → R 72 1 = t → RS1 t d s V W [] → (0 ≤ z4 ∧ z4 ≤ W 0 11) → sgnZ W = 91 → brk 93 V J R (a, U) → RA z4 Jm Rm W r →
  (a = 1 ∧ ∃ X : Nat → Nat → Int, RB z4 Jm Rm X r ∧ RS1 t d s U X [] ∧ X 0 11 = W 0 11 ∧ KM (W 0 11) W X ∧ KX t V U ∧ W 0 5 < X 0 5 ∧ GR t V U (13 - 2 * d)) ∨ BAD a U r
theorem tx_ne {t : Nat} (h : isTx t) : (t ≠ 72 ∧ t + 1 ≠ 72) ∧ (t ≠ 58 ∧ t ≠ 59 ∧ t + 1 ≠ 58 ∧ t + 1 ≠ 59) := by rcases h with rfl | rfl | rfl | rfl | rfl | rfl <;> decide
/-- the first side passes a sign, so does the reference -/
theorem RS1.adv {t : Nat} {d s : Int} {V W V2 W2 : Nat → Nat → Int} {L : List Int} (h : RS1 t d s V W L) (ht : isTx t) (hlt : W 0 5 < W 0 6) (hV : V2 = up2 V 72 2 (W 0 5 + 1)) (h5 : W2 0 5 = W 0 5 + 1) (h6 : W2 0 6 = W 0 6) (h9 : W2 0 9 = W 0 9) (h10 : W2 0 10 = W 0 10) (h4 : W2 4 = W 4) (hc : W2 5 = W 5) : RS1 t d (s + 1) V2 W2 L := by
  have tn := tx_ne ht
  obtain ⟨hP, hC, hd, hd2, hs, hl⟩ := h
  subst hV
  have hp := hP.2.2.1
  refine ⟨hP.to (by rw [up2_s, h5]) (up2_n _ _ (Or.inr (by decide))) h6 (by omega) (up2_c _ _ (by decide)) (up2_c _ _ (by decide)) h4, hC.to (up2_n _ _ (Or.inl tn.1.1)) (up2_c _ _ tn.1.2) h10 hc, ?_, by omega, by omega, ?_⟩
  · rw [up2_n _ _ (Or.inr (by decide))]; exact hd
  · rw [up2_n _ _ (Or.inl tn.1.1)]; omega
theorem FACS.of {d : Int} {PB : (Nat → Nat → Nat) → Nat → Nat → Prop} {brk : Int → ((Nat → Nat → Int) → (Nat → Nat → Int) → (Nat → Nat → Nat) → Int × (Nat → Nat → Int) → Prop)} (hB : BRS d brk) (hd : 0 ≤ d ∧ d ≤ 6) : FACS d (factX PB brk) := by
  intro t s z4 a V W J Jm U R Rm r ht hR hS hz hx hm
  have tn := tx_ne ht
  have hS0 := hS
  obtain ⟨hP, hC, hd1, hd2, hs, hl⟩ := hS
  have hp := hP.2.2.1
  have hCl : V t 1 = W 0 10 := by have := hC.2.1; simpa using this
  have hC0 := hC.1
  unfold factX at hx
  obtain ⟨c, hc, hx⟩ := hx
  have hc := q_peek hP hc
  subst hc
  by_cases g91 : sgnZ W = 91
  · rw [if_neg (fun hh => hh g91)] at hx
    obtain ⟨z, Y, hY, -, -, hx⟩ := hx
    simp only [rtn, Prod.mk.injEq] at hx
    obtain ⟨rfl, rfl⟩ := hx
    exact hB t s z4 a V W J Jm U R Rm r ht hR hS0 hz g91 hY hm
  · rw [if_pos g91] at hx
    obtain ⟨dg, hdg, -, hx⟩ := hx
    have hdg := q_rDigit hdg
    rcases hm.one g91 ⟨hp.1, by omega⟩ with ⟨k1, c, X, hX, k2, k3⟩ | ⟨k1, k2⟩
    · -- a number
      have hlt := sgn_lt (W := W) (by omega)
      rw [if_neg (by unfold Sq at hdg; omega)] at hx
      obtain ⟨z, Y, hY, -, -, hx⟩ := hx
      simp only [rtn, Prod.mk.injEq] at hx
      obtain ⟨rfl, rfl⟩ := hx
      rcases q_number hP hR tn.1 (by omega) hY hX with ⟨n1, n2, w, p, V2, n3, n4, n5, n6, n7, n8, n9, n10, n11, n12, n13⟩ | ⟨n1, n2, n3⟩
      · refine Or.inl ⟨n1, _, k3 n2, ?_⟩
        rw [n10]
        have hp5 := n5 k1
        have x10 : X 0 10 = W 0 10 := n12 10 (by decide) (by decide)
        have x5 : X 5 = W 5 := n13 5 (by decide)
        have v2t : V2 t = V t := n9 t tn.1.1
        have v2s : V2 (t + 1) = V (t + 1) := n9 _ tn.1.2
        have e10 : nted X (1048576 * 0 + w) 0 10 = W 0 10 + 1 := by unfold nted; rw [up2_s, x10]
        have e5 : ∀ k : Nat, nted X (1048576 * 0 + w) 5 k = if k = (W 0 10).toNat then 1048576 * 0 + w else W 5 k := fun k => by
          unfold nted
          rw [up2_n _ _ (Or.inl (by decide)), x10]
          by_cases g : k = (W 0 10).toNat
          · subst g; rw [up2_s, if_pos rfl]
          · rw [up2_n _ _ (Or.inr g), if_neg g, x5]
        have e0 : ∀ k : Nat, k ≠ 10 → nted X (1048576 * 0 + w) 0 k = X 0 k := fun k hk => by
          unfold nted; rw [up2_n _ _ (Or.inr hk), up2_n _ _ (Or.inl (by decide))]
        have er : ∀ i : Nat, i ≠ 0 → i ≠ 5 → nted X (1048576 * 0 + w) i = W i := fun i i1 i2 => by
          unfold nted; rw [up2_c _ _ i1, up2_c _ _ i2]; exact n13 i i1
        refine ⟨⟨?_, ?_, ?_, ?_, hs, ?_⟩, ?_, ⟨fun j hj => ?_, fun i i1 i2 i3 => er i i1 i2, ?_, ?_, ?_⟩, ⟨fun i i1 i2 i3 => ?_, fun k hk => ?_, ?_⟩, ?_, ?_⟩
        · rw [n6]
          refine hP.to ?_ ?_ (by rw [e0 6 (by decide)]; exact n12 6 (by decide) (by decide)) (by rw [e0 5 (by decide), n11]; omega) ?_ ?_ (er 4 (by decide) (by decide))
          · rw [up2_n _ _ (Or.inl tn.1.1.symm), up2_n _ _ (Or.inl tn.1.2.symm), n7, e0 5 (by decide), n11]
          · rw [up2_n _ _ (Or.inl tn.1.1.symm), up2_n _ _ (Or.inl tn.1.2.symm), n8 3 (by decide)]
          · rw [up2_c _ _ tn.2.1.symm, up2_c _ _ tn.2.2.2.1.symm, n9 58 (by decide)]
          · rw [up2_c _ _ tn.2.2.1.symm, up2_c _ _ tn.2.2.2.2.symm, n9 59 (by decide)]
        · have hC2 : CA t V2 W [] := hC.to (by rw [v2t]) v2s rfl rfl
          have := hC2.both (x := 0 + 16 * w) (w := 1048576 * 0 + w) ⟨0, w, rfl, by decide, by decide, n3.1, by omega, Or.inl ⟨by decide, rfl⟩⟩ e10 e5
          rw [v2t] at this
          rw [n6]; exact this
        · rw [n6, up2_n _ _ (Or.inl tn.1.1.symm), up2_n _ _ (Or.inl tn.1.2.symm), n8 4 (by decide)]; exact hd1
        · rw [e0 9 (by decide), n12 9 (by decide) (by decide)]; exact hd2
        · rw [n6, up2_s, e0 5 (by decide), n11]; omega
        · rw [e0 11 (by decide), n12 11 (by decide) (by decide)]
        · rw [er 6 (by decide) (by decide)]
        · rw [e0 6 (by decide), n12 6 (by decide) (by decide)]
        · rw [e0 12 (by decide), n12 12 (by decide) (by decide)]
        · rw [e0 4 (by decide), n12 4 (by decide) (by decide)]
        · rw [n6, up2_c _ _ i2, up2_c _ _ i3]; exact n9 i i1
        · rw [n6, up2_n _ _ (Or.inr hk), up2_n _ _ (Or.inl (by omega)), v2t]
        · rw [n6, up2_n _ _ (Or.inl tn.1.1.symm), up2_n _ _ (Or.inl tn.1.2.symm), n8 3 (by decide)]
        · rw [e0 5 (by decide), n11]; exact hp5
        · refine GR.one (x := 0 + 16 * w) (by omega) (by omega) (by rw [n6, up2_s]) (fun j => ?_) (by omega)
          rw [n6, up2_n _ _ (Or.inl (by omega))]
          by_cases g : j = (V t 1).toNat
          · subst g; rw [up2_s, if_pos rfl]
          · rw [up2_n _ _ (Or.inr g), if_neg g, v2s]
      · exact Or.inr ⟨n1, X, k2 n2, n3⟩
    · rw [if_pos (by unfold Sq at hdg; omega)] at hx
      have sr := sgn_r W
      -- the first side's answer where it is no letter
      have bad : ∀ z Y, f_r_fail 1 V J R (z, Y) → a = z → U = Y → ∀ X : Nat → Nat → Int, r = (0, X) → X 0 7 = -1000 - W 0 5 → BAD a U r := fun z Y hY h1 h2 X h3 h4 => by
        obtain ⟨q1, q2⟩ := q_fail hY (by decide) (by have := hP.1; omega)
        refine ⟨by omega, X, h3, ?_⟩
        rw [h2, q2, up2_s, h4, hP.1]
        exact ⟨by omega, by omega⟩
      by_cases gneg : sgnZ W < 0
      · rw [if_pos gneg] at hx
        obtain ⟨z, Y, hY, -, -, hx⟩ := hx
        simp only [rtn, Prod.mk.injEq] at hx
        rcases k2 with ⟨l1, -⟩ | ⟨l1, X, l2, l3⟩
        · unfold isL at l1; omega
        · exact Or.inr (bad z Y hY hx.1 hx.2 X l2 l3)
      · rw [if_neg gneg, iC_c ⟨by omega, by omega⟩] at hx
        obtain ⟨q, eq, -, hx⟩ := rdb_g hx
        subst eq
        obtain ⟨i, hi, hx⟩ := hx
        have hlt := sgn_lt (W := W) (by omega)
        rcases q_letters ⟨by omega, by omega⟩ hi with ⟨i1, i2⟩ | ⟨i1, i2⟩
        · rcases k2 with ⟨l1, z, l2, l3⟩ | ⟨l1, -⟩
          · rw [if_pos i1] at hx
            obtain ⟨t2, et2, hx⟩ := rdb_g hx
            rw [hR] at et2
            subst et2
            obtain ⟨V11, h11, -, hx⟩ := hx
            obtain ⟨z12, e12, hx⟩ := rdb_g hx
            obtain ⟨z13, e13, hx⟩ := rdb_g hx
            obtain ⟨V14, e14, hx⟩ := rdb_g hx
            simp only [rtn, Prod.mk.injEq] at hx
            obtain ⟨f1, f2⟩ := ltr_fc l2
            have fb := fc_b z.toNat
            have p11 := q_put h11 (by decide) (by omega) (by omega)
            have v72 : V11 72 2 = W 0 5 := by rw [p11, up2_n _ _ (Or.inl tn.1.1.symm), up2_n _ _ (Or.inl tn.1.2.symm)]; exact hP.1
            rw [← e12, v72, wr_id ⟨by omega, by omega⟩] at e13
            rw [← e13] at e14
            have n10 : up2 (nted W (1048576 * 1 + z)) 0 5 (W 0 5 + 1) 0 10 = W 0 10 + 1 := by unfold nted; rw [up2_n _ _ (Or.inr (by decide)), up2_s]
            have n5 : ∀ k : Nat, up2 (nted W (1048576 * 1 + z)) 0 5 (W 0 5 + 1) 5 k = if k = (W 0 10).toNat then 1048576 * 1 + z else W 5 k := fun k => by
              unfold nted
              rw [up2_n _ _ (Or.inl (by decide)), up2_n _ _ (Or.inl (by decide))]
              by_cases g : k = (W 0 10).toNat
              · subst g; rw [up2_s, if_pos rfl]
              · rw [up2_n _ _ (Or.inr g), if_neg g]
            have n0 : ∀ k : Nat, k ≠ 5 → k ≠ 10 → up2 (nted W (1048576 * 1 + z)) 0 5 (W 0 5 + 1) 0 k = W 0 k := fun k k1 k2 => by
              unfold nted; rw [up2_n _ _ (Or.inr k1), up2_n _ _ (Or.inr k2), up2_n _ _ (Or.inl (by decide))]
            have nr : ∀ i : Nat, i ≠ 0 → i ≠ 5 → up2 (nted W (1048576 * 1 + z)) 0 5 (W 0 5 + 1) i = W i := fun i i1 i2 => by
              unfold nted; rw [up2_c _ _ i1, up2_c _ _ i1, up2_c _ _ i2]
            have hU : U = up2 (up2 (up2 V (t + 1) (V t 1).toNat (1 + 16 * (sgnZ W - 97))) t 1 (V t 1 + 1)) 72 2 (W 0 5 + 1) := by rw [hx.2, ← e14, p11]
            refine Or.inl ⟨hx.1, _, l3, ⟨?_, ?_, ?_, ?_, hs, ?_⟩, n0 11 (by decide) (by decide), ⟨fun j hj => by rw [nr 6 (by decide) (by decide)], fun i i1 i2 i3 => nr i i1 i2, n0 6 (by decide) (by decide), n0 12 (by decide) (by decide), n0 4 (by decide) (by decide)⟩, ⟨fun i i1 i2 i3 => ?_, fun k hk => ?_, ?_⟩, ?_, ?_⟩
            · rw [hU]
              refine hP.to (by rw [up2_s, up2_s]) ?_ (n0 6 (by decide) (by decide)) (by rw [up2_s]; omega) ?_ ?_ (nr 4 (by decide) (by decide))
              · rw [up2_n _ _ (Or.inr (by decide)), up2_n _ _ (Or.inl tn.1.1.symm), up2_n _ _ (Or.inl tn.1.2.symm)]
              · rw [up2_c _ _ (by decide), up2_c _ _ tn.2.1.symm, up2_c _ _ tn.2.2.2.1.symm]
              · rw [up2_c _ _ (by decide), up2_c _ _ tn.2.2.1.symm, up2_c _ _ tn.2.2.2.2.symm]
            · have := hC.both (x := 1 + 16 * (sgnZ W - 97)) (w := 1048576 * 1 + z) (W2 := up2 (nted W (1048576 * 1 + z)) 0 5 (W 0 5 + 1)) ⟨1, z, rfl, by decide, by decide, f1.1, by omega, Or.inr ⟨rfl, f1.2, by rw [f2]⟩⟩ n10 n5
              rw [hU]
              exact this.to (up2_n _ _ (Or.inl tn.1.1)) (up2_c _ _ tn.1.2) rfl rfl
            · rw [hU, up2_n _ _ (Or.inr (by decide)), up2_n _ _ (Or.inl tn.1.1.symm), up2_n _ _ (Or.inl tn.1.2.symm)]; exact hd1
            · rw [n0 9 (by decide) (by decide)]; exact hd2
            · rw [hU, up2_n _ _ (Or.inl tn.1.1), up2_s, up2_s]; omega
            · rw [hU, up2_c _ _ i1, up2_c _ _ i2, up2_c _ _ i3]
            · rw [hU, up2_n _ _ (Or.inl tn.1.1), up2_n _ _ (Or.inr hk), up2_n _ _ (Or.inl (by omega))]
            · rw [hU, up2_n _ _ (Or.inr (by decide)), up2_n _ _ (Or.inl tn.1.1.symm), up2_n _ _ (Or.inl tn.1.2.symm)]
            · rw [up2_s]; omega
            · refine GR.one (x := 1 + 16 * (sgnZ W - 97)) (by omega) (by omega) (by rw [hU, up2_n _ _ (Or.inl tn.1.1), up2_s]) (fun j => ?_) (by omega)
              rw [hU, up2_c _ _ tn.1.2, up2_n _ _ (Or.inl (by omega))]
              by_cases g : j = (V t 1).toNat
              · subst g; rw [up2_s, if_pos rfl]
              · rw [up2_n _ _ (Or.inr g), if_neg g]
          · exact absurd i2 l1
        · rcases k2 with ⟨l1, -⟩ | ⟨l1, X, l2, l3⟩
          · exact absurd l1 i2
          · rw [if_neg (by omega)] at hx
            obtain ⟨z, Y, hY, -, -, hx⟩ := hx
            simp only [rtn, Prod.mk.injEq] at hx
            exact Or.inr (bad z Y hY hx.1 hx.2 X l2 l3)
