-- reading: conditions, on both sides (own work)
def prtX (c o : Int) (sub : ((Nat → Nat → Int) → (Nat → Nat → Int) → (Nat → Nat → Nat) → Int × (Nat → Nat → Int) → Prop)) (V : Nat → Nat → Int) (J : Nat → Nat → Int) (Rr : Nat → Nat → Nat) : (Int × (Nat → Nat → Int)) → Prop :=
  calVX (fun i k : Nat => (72 ≤ i ∧ i ≤ 72) ∨ (Rr 72 1 ≤ i ∧ i ≤ Rr 72 1 + 4)) V (sub V J Rr) fun z1 V1 => fct (0 ≤ z1 ∧ z1 ≤ 1) <| (if ¬ z1 = 0 then lop3 (202) (fun rc95 (z92 : Int) (z93 : Int) (V95 : Nat → Nat → Int) => (if 200 ≤ z92 then rdb (Rr 72 1) fun t112 => calUX (fun i k : Nat => (t112 ≤ i ∧ i ≤ t112 + 4)) V95 (f_r_land t112 z93 V95 J Rr) fun V113 => rtn (1, V113) else calR (f_r_peek V95 J Rr) fun z114 => (if ¬ z114 = c then rdb (Rr 72 1) fun t116 => calUX (fun i k : Nat => (t116 ≤ i ∧ i ≤ t116 + 4)) V95 (f_r_land t116 z93 V95 J Rr) fun V117 => rtn (1, V117) else rdb (V95 72 2) fun z118 => rdb (wr (z118 + 1)) fun z119 => rdb (up2 V95 72 2 z119) fun V120 => rdb (Rr 72 1) fun t121 => calVX (fun i k : Nat => (t121 ≤ i ∧ i ≤ t121 + 4)) V120 (f_r_jump t121 z93 o V120 J Rr) fun z122 V122 => calVX (fun i k : Nat => (72 ≤ i ∧ i ≤ 72) ∨ (Rr 72 1 ≤ i ∧ i ≤ Rr 72 1 + 4)) V122 (sub V122 J Rr) fun z123 V123 => fct (0 ≤ z123 ∧ z123 ≤ 1) <| (if ¬ z123 = 0 then rc95 (z92 + 1) z122 V123 else rtn (0, V123))))) 0 ((-1)) V1 else rtn (0, V1))
def cmpX (sm : ((Nat → Nat → Int) → (Nat → Nat → Int) → (Nat → Nat → Nat) → Int × (Nat → Nat → Int) → Prop)) (V : Nat → Nat → Int) (J : Nat → Nat → Int) (Rr : Nat → Nat → Nat) : (Int × (Nat → Nat → Int)) → Prop :=
  calVX (fun i k : Nat => (72 ≤ i ∧ i ≤ 72) ∨ (Rr 72 1 ≤ i ∧ i ≤ Rr 72 1 + 4)) V (sm V J Rr) fun z1 V1 => fct (0 ≤ z1 ∧ z1 ≤ 1) <| (if ¬ z1 = 0 then calR (f_r_peek V1 J Rr) fun z4 => calR (f_r_stepOf z4) fun z5 => fct (-1 ≤ z5 ∧ z5 ≤ 9) <| (if 7 ≤ z5 then rdb (V1 72 2) fun z7 => rdb (wr (z7 + 1)) fun z8 => rdb (up2 V1 72 2 z8) fun V9 => calVX (fun i k : Nat => (72 ≤ i ∧ i ≤ 72) ∨ (Rr 72 1 ≤ i ∧ i ≤ Rr 72 1 + 4)) V9 (sm V9 J Rr) fun z10 V10 => fct (0 ≤ z10 ∧ z10 ≤ 1) <| (if ¬ z10 = 0 then rdb (Rr 72 1) fun t13 => calUX (fun i k : Nat => (t13 ≤ i ∧ i ≤ t13 + 4)) V10 (f_r_put t13 z5 0 V10 J Rr) fun V14 => rtn (1, V14) else rtn (0, V10)) else calVX (fun i k : Nat => (72 ≤ i ∧ i ≤ 72)) V1 (f_r_fail 1 V1 J Rr) fun z15 V15 => fct (0 ≤ z15 ∧ z15 ≤ 0) <| rtn (z15, V15)) else rtn (0, V1))
def pieX (d : Int) (ent cmp pie : ((Nat → Nat → Int) → (Nat → Nat → Int) → (Nat → Nat → Nat) → Int × (Nat → Nat → Int) → Prop)) (brk : Int → ((Nat → Nat → Int) → (Nat → Nat → Int) → (Nat → Nat → Nat) → Int × (Nat → Nat → Int) → Prop)) (V : Nat → Nat → Int) (J : Nat → Nat → Int) (Rr : Nat → Nat → Nat) : (Int × (Nat → Nat → Int)) → Prop :=
  calR (f_r_peek V J Rr) fun z1 => (if ¬ z1 = 40 then calR (f_r_peek V J Rr) fun z3 => (if z3 = 33 then calVX (fun i k : Nat => (72 ≤ i ∧ i ≤ 72)) V (ent V J Rr) fun z5 V5 => fct (0 ≤ z5 ∧ z5 ≤ 1) <| (if z5 = 0 then rtn (0, V5) else calVX (fun i k : Nat => (72 ≤ i ∧ i ≤ 72) ∨ (Rr 72 1 ≤ i ∧ i ≤ Rr 72 1 + 4)) V5 (pie V5 J Rr) fun z8 V8 => fct (0 ≤ z8 ∧ z8 ≤ 1) <| (if ¬ z8 = 0 then rdb (up2 V8 72 4 d) fun V11 => rdb (Rr 72 1) fun t12 => calUX (fun i k : Nat => (t12 ≤ i ∧ i ≤ t12 + 4)) V11 (f_r_put t12 10 0 V11 J Rr) fun V13 => rtn (1, V13) else rtn (0, V8))) else calVX (fun i k : Nat => (72 ≤ i ∧ i ≤ 72) ∨ (Rr 72 1 ≤ i ∧ i ≤ Rr 72 1 + 4)) V (cmp V J Rr) fun z14 V14 => fct (0 ≤ z14 ∧ z14 ≤ 1) <| rtn (z14, V14)) else calVX (fun i k : Nat => (72 ≤ i ∧ i ≤ 72) ∨ (Rr 72 1 ≤ i ∧ i ≤ Rr 72 1 + 4)) V (brk 41 V J Rr) fun z15 V15 => fct (0 ≤ z15 ∧ z15 ≤ 1) <| rtn (z15, V15))
theorem fx_cond1 : f_r_condition1 = prtX 124 12 f_r_conditionPart1 := rfl
theorem fx_part1 : f_r_conditionPart1 = prtX 38 11 f_r_piece1 := rfl
theorem fx_cmp1 : f_r_comparison1 = cmpX f_r_sum1 := rfl
theorem fx_pie1 : f_r_piece1 = pieX 1 f_r_enter1 f_r_comparison1 f_r_piece2 f_r_bracket1 := rfl
theorem fx_cond2 : f_r_condition2 = prtX 124 12 f_r_conditionPart2 := rfl
theorem fx_part2 : f_r_conditionPart2 = prtX 38 11 f_r_piece2 := rfl
theorem fx_cmp2 : f_r_comparison2 = cmpX f_r_sum2 := rfl
theorem fx_pie2 : f_r_piece2 = pieX 2 f_r_enter2 f_r_comparison2 f_r_piece3 f_r_bracket2 := rfl
theorem fx_cond3 : f_r_condition3 = prtX 124 12 f_r_conditionPart3 := rfl
theorem fx_part3 : f_r_conditionPart3 = prtX 38 11 f_r_piece3 := rfl
theorem fx_cmp3 : f_r_comparison3 = cmpX f_r_sum3 := rfl
theorem fx_pie3 : f_r_piece3 = pieX 3 f_r_enter3 f_r_comparison3 f_r_piece4 f_r_bracket3 := rfl
theorem fx_cond4 : f_r_condition4 = prtX 124 12 f_r_conditionPart4 := rfl
theorem fx_part4 : f_r_conditionPart4 = prtX 38 11 f_r_piece4 := rfl
theorem fx_cmp4 : f_r_comparison4 = cmpX f_r_sum4 := rfl
theorem fx_pie4 : f_r_piece4 = pieX 4 f_r_enter4 f_r_comparison4 f_r_piece5 f_r_bracket4 := rfl
theorem fx_cond5 : f_r_condition5 = prtX 124 12 f_r_conditionPart5 := rfl
theorem fx_part5 : f_r_conditionPart5 = prtX 38 11 f_r_piece5 := rfl
theorem fx_cmp5 : f_r_comparison5 = cmpX f_r_sum5 := rfl
theorem fx_pie5 : f_r_piece5 = pieX 5 f_r_enter5 f_r_comparison5 f_r_piece6 f_r_bracket5 := rfl
theorem fx_cond6 : f_r_condition6 = prtX 124 12 f_r_conditionPart6 := rfl
theorem fx_part6 : f_r_conditionPart6 = prtX 38 11 f_r_piece6 := rfl
theorem fx_cmp6 : f_r_comparison6 = cmpX f_r_sum6 := rfl
/-- a sum, read to its end on both sides -/
theorem SUMS.all {d : Int} {sm : ((Nat → Nat → Int) → (Nat → Nat → Int) → (Nat → Nat → Nat) → Int × (Nat → Nat → Int) → Prop)} (hF : SUMS d sm) (hd : 0 ≤ d ∧ d ≤ 6) {t : Nat} {s a q : Int} {V W J Jm U Y : Nat → Nat → Int} {R Rm : Nat → Nat → Nat} (ht : isTx t) (hR : R 72 1 = t) (hS : RS1 t d s V W []) (h0 : 0 ≤ W 0 11) (hb : bot W (W 0 11)) (hx : sm V J R (a, U)) (hm : f_m_readsSum W Jm Rm (q, Y)) :
    (a = 1 ∧ q = 1 ∧ RS1 t d s U Y [] ∧ Y 0 11 = W 0 11 ∧ KM (W 0 11) W Y ∧ KX t V U ∧ W 0 5 < Y 0 5 ∧ (¬ sgnZ Y = 42 ∧ ¬ sgnZ Y = 47 ∧ ¬ sgnZ Y = 37 ∧ ¬ sgnZ Y = 43 ∧ ¬ sgnZ Y = 45) ∧ GR t V U (15 - 2 * d)) ∨ (a = 0 ∧ q = 0 ∧ FLT (U 72 5) (Y 0 7)) := by
  have hRA := q_readsSum hm
  rcases hF t s (W 0 11) (W 0 11) a V W J Jm U R Rm (q, Y) ht hR hS ⟨h0, by simp, fun i hi => by simp at hi⟩ hb ⟨h0, Int.le_refl _⟩ hx hRA with ⟨f1, X, O, f2, f3, f4, f5, f6, f7, f8, f9, f10⟩ | ⟨hbad, Z, z1, z2⟩
  · obtain ⟨sg, hsg, hcase⟩ := RB.sg f3 h0 (by have := f4.2.2.2.1; omega) (by have := f4.1.2.2.1; omega)
    have hsg := q_sumSign hsg
    have esg : sg = -1 := by omega
    have noopen : ∀ j : Nat, W 0 11 ≤ (j : Int) → (j : Int) < X 0 11 → ¬ iDiv (X 6 j) 1048576 = 14 := fun j j1 j2 j3 => by
      obtain ⟨w1, w2, w3⟩ := f5
      obtain ⟨i, hi, hj⟩ : ∃ i : Nat, i < O.length ∧ j = (X 0 11).toNat - 1 - i := ⟨(X 0 11).toNat - 1 - j, by omega, by omega⟩
      have hm := f2 (O.getD i 0) (by rw [List.getD_eq_getElem?_getD, List.getElem?_eq_getElem hi]; exact List.getElem_mem hi)
      rw [hj, w3 i hi, iDiv_p (by omega) (by decide)] at j3
      omega
    rcases hcase with ⟨c1, -⟩ | ⟨c1, -⟩ | ⟨c1, ⟨d1, ⟨j, j1, j2, j3⟩, -⟩ | ⟨d1, X2, ⟨n2, hX2⟩, d3⟩ | ⟨d1, ⟨j, j1, j2, j3⟩, -⟩⟩
    · omega
    · omega
    · exact absurd j3 (noopen j j1 j2)
    · obtain ⟨t1, t2, t3, t4, t5, t6, t7⟩ := closed (z4 := W 0 11) (P := O) (A := []) (Or.inr rfl) hX2 f4 (by rw [List.append_nil]; exact f5) (fun o ho => by have := f2 o ho; unfold popc; omega) f2 (fun Y hY hWY => bot_np (W := X) (Or.inr rfl) (hb.km f6 (Int.le_refl _) h0) hY hWY)
      simp only [Prod.mk.injEq] at d3
      obtain ⟨rfl, rfl⟩ := d3
      have es : sgnZ Y = sgnZ X := sgn_eq t5 t6 ((t3 0).2.1 4 (by decide) (by decide) (by decide))
      exact Or.inl ⟨f1, rfl, t1, by have := t2.2.1; simpa using this, f6.tr (t3 _) (Int.le_refl _), f7, by omega, by rw [es]; exact f9, f10⟩
    · exact absurd j3 (noopen j j1 j2)
  · simp only [Prod.mk.injEq] at z1
    obtain ⟨rfl, rfl⟩ := z1
    exact Or.inr ⟨hbad, rfl, z2⟩
theorem nted_v (W : Nat → Nat → Int) (w : Int) : nted W w 0 10 = W 0 10 + 1 ∧ (∀ k : Nat, k ≠ 10 → nted W w 0 k = W 0 k) ∧ (∀ i : Nat, i ≠ 0 → i ≠ 5 → nted W w i = W i) ∧ ∀ k : Nat, nted W w 5 k = if k = (W 0 10).toNat then w else W 5 k := by
  unfold nted
  refine ⟨up2_s _ _ _ _, fun k hk => by rw [up2_n _ _ (Or.inr hk), up2_n _ _ (Or.inl (by decide))], fun i i1 i2 => by rw [up2_c _ _ i1, up2_c _ _ i2], fun k => ?_⟩
  rw [up2_n _ _ (Or.inl (by decide))]
  by_cases e : k = (W 0 10).toNat
  · subst e; rw [up2_s, if_pos rfl]
  · rw [up2_n _ _ (Or.inr e), if_neg e]
/-- both put the same operator -/
theorem RS1.both {t : Nat} {d s k : Int} {V X : Nat → Nat → Int} (h : RS1 t d (s + 1) V X []) (ht : isTx t) (hs : 0 ≤ s) (hk : 2 ≤ k ∧ k ≤ 12) : RS1 t d s (up2 (up2 V (t + 1) (V t 1).toNat (k + 16 * 0)) t 1 (V t 1 + 1)) (nted X (1048576 * k + 0)) [] := by
  have tn := tx_ne ht
  obtain ⟨s1, s2, s3, s4, s5, s6⟩ := h
  obtain ⟨n1, n2, n3, n4⟩ := nted_v X (1048576 * k + 0)
  refine ⟨s1.to ?_ ?_ (n2 6 (by decide)) (by rw [n2 5 (by decide)]; have := s1.2.2.1; omega) ?_ ?_ (n3 4 (by decide) (by decide)), ?_, ?_, by rw [n2 9 (by decide)]; exact s4, hs, ?_⟩
  · rw [up2_n _ _ (Or.inl tn.1.1.symm), up2_n _ _ (Or.inl tn.1.2.symm), n2 5 (by decide)]; exact s1.1
  · rw [up2_n _ _ (Or.inl tn.1.1.symm), up2_n _ _ (Or.inl tn.1.2.symm)]
  · rw [up2_c _ _ tn.2.1.symm, up2_c _ _ tn.2.2.2.1.symm]
  · rw [up2_c _ _ tn.2.2.1.symm, up2_c _ _ tn.2.2.2.2.symm]
  · exact s2.both (by rw [show k + 16 * 0 = k by omega]; exact stw_op hk) n1 n4
  · rw [up2_n _ _ (Or.inl tn.1.1.symm), up2_n _ _ (Or.inl tn.1.2.symm)]; exact s3
  · rw [up2_s, n2 5 (by decide)]; omega
theorem KM.nt {n : Int} {X : Nat → Nat → Int} {w : Int} : KM n X (nted X w) := by
  obtain ⟨n1, n2, n3, n4⟩ := nted_v X w
  exact ⟨fun j _ => by rw [n3 6 (by decide) (by decide)], fun i a b c => n3 i a b, n2 6 (by decide), n2 12 (by decide), n2 4 (by decide)⟩
/-- a sign is passed on both sides -/
theorem RS1.pass {t : Nat} {d s : Int} {V X : Nat → Nat → Int} (h : RS1 t d s V X []) (ht : isTx t) (hlt : X 0 5 < X 0 6) : RS1 t d (s + 1) (up2 V 72 2 (X 0 5 + 1)) (up2 X 0 5 (X 0 5 + 1)) [] :=
  h.adv ht hlt rfl (up2_s _ _ _ _) (up2_n _ _ (Or.inr (by decide))) (up2_n _ _ (Or.inr (by decide))) (up2_n _ _ (Or.inr (by decide))) (up2_c _ _ (by decide)) (up2_c _ _ (by decide))
theorem KM.pass {n : Int} {X : Nat → Nat → Int} {p : Int} : KM n X (up2 X 0 5 p) := ⟨fun j _ => up2_n _ _ (Or.inl (by decide)), fun i a b c => up2_c _ _ a, up2_n _ _ (Or.inr (by decide)), up2_n _ _ (Or.inr (by decide)), up2_n _ _ (Or.inr (by decide))⟩
/-- the reference compares -/
theorem q_compared {q : Int} {W J Y : Nat → Nat → Int} {R : Nat → Nat → Nat} (h : f_m_readsCompared W J R (q, Y)) : ∃ (q1 : Int) (Y1 : Nat → Nat → Int), f_m_readsSum W J R (q1, Y1) ∧ (q1 = 0 → q = 0 ∧ Y = Y1) ∧ (q1 = 1 →
    (∃ k : Int, ((sgnZ Y1 = 60 ∧ k = 7) ∨ (sgnZ Y1 = 62 ∧ k = 8) ∨ (sgnZ Y1 = 61 ∧ k = 9)) ∧ ∃ (q2 : Int) (Y2 : Nat → Nat → Int), f_m_readsSum (up2 Y1 0 5 (Y1 0 5 + 1)) J R (q2, Y2) ∧ (q2 = 0 → q = 0 ∧ Y = Y2) ∧ (q2 = 1 → q = 1 ∧ ∃ n : Nat, lop1 n (enB J R) (nted Y2 (1048576 * k + 0)) Y)) ∨
    (¬ sgnZ Y1 = 60 ∧ ¬ sgnZ Y1 = 62 ∧ ¬ sgnZ Y1 = 61 ∧ (0 ≤ Y1 0 5 ∧ Y1 0 5 ≤ 200 → q = 0 ∧ Y 0 7 = -1000 - Y1 0 5))) := by
  unfold f_m_readsCompared at h
  obtain ⟨z1, -, -, h⟩ := rdb_g h
  obtain ⟨z2, -, -, h⟩ := rdb_g h
  obtain ⟨z3, -, -, h⟩ := rdb_g h
  obtain ⟨z4, -, -, h⟩ := rdb_g h
  obtain ⟨q1, Y1, hY1, -, hq1, h⟩ := h
  refine ⟨q1, Y1, hY1, fun g => ?_, fun g => ?_⟩
  · rw [if_neg (fun hh => hh g)] at h
    simp only [rtn, Prod.mk.injEq] at h
    exact h
  · rw [if_pos (by omega)] at h
    obtain ⟨z9, e9, -, h⟩ := rdb_g h
    obtain ⟨z10, -, -, h⟩ := rdb_g h
    obtain ⟨z11, -, -, h⟩ := rdb_g h
    obtain ⟨z12, -, -, h⟩ := rdb_g h
    obtain ⟨c, hc, -, h⟩ := h
    have hc := q_here hc
    by_cases g60 : c = 60
    · rw [if_neg (fun hh => hh g60)] at h
      obtain ⟨V20, e20, h⟩ := rdb_g h
      obtain ⟨q2, Y2, hY2, -, hq2, h⟩ := h
      have e21 : V20 = up2 Y1 0 5 (Y1 0 5 + 1) := by rw [← e20, ← e9]
      rw [e21] at hY2
      refine Or.inl ⟨7, Or.inl ⟨by omega, rfl⟩, q2, Y2, hY2, fun g2 => ?_, fun g2 => ?_⟩
      · rw [if_neg (fun hh => hh g2)] at h
        simp only [rtn, Prod.mk.injEq] at h
        exact h
      · rw [if_pos (by omega)] at h
        obtain ⟨y1, -, -, h⟩ := rdb_g h
        obtain ⟨y2, -, -, h⟩ := rdb_g h
        obtain ⟨y3, -, -, h⟩ := rdb_g h
        obtain ⟨y4, -, -, h⟩ := rdb_g h
        obtain ⟨Z, hZ, -, h⟩ := h
        obtain ⟨Z2, hZ2, -, h⟩ := h
        simp only [rtn, Prod.mk.injEq] at h
        obtain ⟨n, hn⟩ := q_ends hZ2
        rw [q_notes hZ] at hn
        exact ⟨h.1, n, by rw [h.2]; exact hn⟩
    · rw [if_pos g60] at h
      obtain ⟨c2, hc2, -, h⟩ := h
      have hc2 := q_here hc2
      by_cases g62 : c2 = 62
      · rw [if_neg (fun hh => hh g62)] at h
        obtain ⟨V20, e20, h⟩ := rdb_g h
        obtain ⟨q2, Y2, hY2, -, hq2, h⟩ := h
        have e21 : V20 = up2 Y1 0 5 (Y1 0 5 + 1) := by rw [← e20, ← e9]
        rw [e21] at hY2
        refine Or.inl ⟨8, Or.inr (Or.inl ⟨by omega, rfl⟩), q2, Y2, hY2, fun g2 => ?_, fun g2 => ?_⟩
        · rw [if_neg (fun hh => hh g2)] at h
          simp only [rtn, Prod.mk.injEq] at h
          exact h
        · rw [if_pos (by omega)] at h
          obtain ⟨y1, -, -, h⟩ := rdb_g h
          obtain ⟨y2, -, -, h⟩ := rdb_g h
          obtain ⟨y3, -, -, h⟩ := rdb_g h
          obtain ⟨y4, -, -, h⟩ := rdb_g h
          obtain ⟨Z, hZ, -, h⟩ := h
          obtain ⟨Z2, hZ2, -, h⟩ := h
          simp only [rtn, Prod.mk.injEq] at h
          obtain ⟨n, hn⟩ := q_ends hZ2
          rw [q_notes hZ] at hn
          exact ⟨h.1, n, by rw [h.2]; exact hn⟩
      · rw [if_pos g62] at h
        obtain ⟨c3, hc3, -, h⟩ := h
        have hc3 := q_here hc3
        by_cases g61 : c3 = 61
        · rw [if_neg (fun hh => hh g61)] at h
          obtain ⟨V20, e20, h⟩ := rdb_g h
          obtain ⟨q2, Y2, hY2, -, hq2, h⟩ := h
          have e21 : V20 = up2 Y1 0 5 (Y1 0 5 + 1) := by rw [← e20, ← e9]
          rw [e21] at hY2
          refine Or.inl ⟨9, Or.inr (Or.inr ⟨by omega, rfl⟩), q2, Y2, hY2, fun g2 => ?_, fun g2 => ?_⟩
          · rw [if_neg (fun hh => hh g2)] at h
            simp only [rtn, Prod.mk.injEq] at h
            exact h
          · rw [if_pos (by omega)] at h
            obtain ⟨y1, -, -, h⟩ := rdb_g h
            obtain ⟨y2, -, -, h⟩ := rdb_g h
            obtain ⟨y3, -, -, h⟩ := rdb_g h
            obtain ⟨y4, -, -, h⟩ := rdb_g h
            obtain ⟨Z, hZ, -, h⟩ := h
            obtain ⟨Z2, hZ2, -, h⟩ := h
            simp only [rtn, Prod.mk.injEq] at h
            obtain ⟨n, hn⟩ := q_ends hZ2
            rw [q_notes hZ] at hn
            exact ⟨h.1, n, by rw [h.2]; exact hn⟩
        · rw [if_pos g61] at h
          obtain ⟨y, Z, hZ, -, -, h⟩ := h
          simp only [rtn, Prod.mk.injEq] at h
          refine Or.inr ⟨by omega, by omega, by omega, fun hp => ?_⟩
          obtain ⟨k3, k4⟩ := q_wrong hZ (by decide) (by omega)
          refine ⟨h.1.trans k3, ?_⟩
          rw [h.2, k4, up2_s, ← e9]
          omega
def TOP (m : Int) (W : Nat → Nat → Int) : Prop := 1 ≤ W 0 11 ∧ m ≤ wtop W ∧ wtop W ≤ 13
theorem TOP.bot {m : Int} {W : Nat → Nat → Int} (h : TOP m W) (hm : 10 ≤ m) : bot W (W 0 11) := by
  obtain ⟨h1, h2, h3⟩ := h
  unfold wtop at h2 h3
  rw [if_neg (by omega)] at h2 h3
  exact Or.inr (by omega)
/-- a comparison, on both sides -/
theorem CMPS.of {d : Int} {sm : ((Nat → Nat → Int) → (Nat → Nat → Int) → (Nat → Nat → Nat) → Int × (Nat → Nat → Int) → Prop)} (hF : SUMS d sm) (hd : 1 ≤ d ∧ d ≤ 6) {t : Nat} {s a q : Int} {V W J Jm U Y : Nat → Nat → Int} {R Rm : Nat → Nat → Nat} (ht : isTx t) (hR : R 72 1 = t) (hS : RS1 t d s V W []) (hT : TOP 10 W) (hx : cmpX sm V J R (a, U)) (hm : f_m_readsCompared W Jm Rm (q, Y)) :
    (a = 1 ∧ q = 1 ∧ ∃ X : Nat → Nat → Int, (∃ n : Nat, lop1 n (enB Jm Rm) X Y) ∧ RS1 t d s U X [] ∧ X 0 11 = W 0 11 ∧ KM (W 0 11) W X ∧ KX t V U ∧ W 0 5 < X 0 5 ∧ CR t V U) ∨ (a = 0 ∧ q = 0 ∧ FLT (U 72 5) (Y 0 7)) := by
  have tn := tx_ne ht
  have hs := hS.2.2.2.2.1
  obtain ⟨q1, Y1, hY1, m1, m2⟩ := q_compared hm
  unfold cmpX at hx
  obtain ⟨z1, V1, h1, -, z1r, hx⟩ := hx
  rcases hF.all ⟨by omega, hd.2⟩ ht hR hS (by have := hT.1; omega) (hT.bot (by decide)) h1 hY1 with ⟨f1, f2, f3, f4, f5, f6, f7, f8, f9⟩ | ⟨f1, f2, f3⟩
  · rw [if_pos (by omega)] at hx
    obtain ⟨c, hc, hx⟩ := hx
    have hc := q_peek f3.1 hc
    subst hc
    obtain ⟨k, hk, -, hx⟩ := hx
    have hk := q_stepOf hk
    have fp := f3.1.2.2.1
    by_cases g : 7 ≤ k
    · rw [if_pos g] at hx
      have hlt := sgn_lt (W := Y1) (by omega)
      obtain ⟨z7, e7, hx⟩ := rdb_g hx
      obtain ⟨z8, e8, hx⟩ := rdb_g hx
      obtain ⟨V9, e9, hx⟩ := rdb_g hx
      obtain ⟨z10, V10, h10, -, z10r, hx⟩ := hx
      rw [← e7, f3.1.1, wr_id ⟨by omega, by omega⟩] at e8
      have hV9 : V9 = up2 V1 72 2 (Y1 0 5 + 1) := by rw [← e9, ← e8]
      rcases m2 f2 with ⟨k2, hk2, q2, Y2, hY2, m3, m4⟩ | ⟨b1, b2, b3, -⟩
      · have ek : k2 = k := by omega
        subst ek
        have S2 := f3.pass ht hlt
        rw [← hV9] at S2
        have e11 : up2 Y1 0 5 (Y1 0 5 + 1) 0 11 = W 0 11 := (up2_n _ _ (Or.inr (by decide))).trans f4
        have K2 : KM (W 0 11) W (up2 Y1 0 5 (Y1 0 5 + 1)) := f5.tr KM.pass (Int.le_refl _)
        rcases hF.all ⟨by omega, hd.2⟩ ht hR S2 (by rw [e11]; have := hT.1; omega) (by rw [e11]; exact (hT.bot (by decide)).km K2 (Int.le_refl _) (by have := hT.1; omega)) h10 hY2 with ⟨g1, g2, g3, g4, g5, g6, g7, g8, g9⟩ | ⟨g1, g2, g3⟩
        · rw [if_pos (by omega)] at hx
          obtain ⟨t0, et0, hx⟩ := rdb_g hx
          rw [hR] at et0
          subst et0
          obtain ⟨V14, h14, -, hx⟩ := hx
          simp only [rtn, Prod.mk.injEq] at hx
          have hp14 := q_put h14 (by omega) (by decide) (by have := g3.2.1.1; have := g3.2.1.2.1; have := g3.2.2.2.2.2; have := g3.1.2.2.1; simp only [List.length_nil] at *; omega)
          have S3 := g3.both (k := k2) ht hs (by omega)
          rw [← hp14] at S3
          obtain ⟨m5, n, m6⟩ := m4 g2
          obtain ⟨v1, v2, v3, v4⟩ := nted_v Y2 (1048576 * k2 + 0)
          rw [up2_s] at g7
          refine Or.inl ⟨hx.1, m5, nted Y2 (1048576 * k2 + 0), ⟨n, m6⟩, by rw [hx.2]; exact S3, by rw [v2 11 (by decide), g4, e11], (K2.tr (by rw [e11] at g5; exact g5) (Int.le_refl _)).tr KM.nt (Int.le_refl _), ?_, by rw [v2 5 (by decide)]; omega, ?_⟩
          · rw [hx.2, hp14]
            exact ((f6.tr (by rw [hV9]; exact KX.adv ht)).tr g6).tr (KX.put ht)
          · rw [hx.2, hp14]
            exact CR.cmp f9 (by rw [hV9, up2_n _ _ (Or.inl tn.1.1)]) (by rw [hV9, up2_c _ _ tn.1.2]) g9 (by omega) (by omega) (by omega)
        · rw [if_neg (fun hh => hh g1)] at hx
          simp only [rtn, Prod.mk.injEq] at hx
          obtain ⟨m5, m6⟩ := m3 g2
          exact Or.inr ⟨hx.1, m5, by rw [hx.2, m6]; exact g3⟩
      · omega
    · rw [if_neg g] at hx
      obtain ⟨y, Z, hZ, -, -, hx⟩ := hx
      simp only [rtn, Prod.mk.injEq] at hx
      obtain ⟨k3, k4⟩ := q_fail hZ (by decide) (by rw [f3.1.1]; omega)
      rcases m2 f2 with ⟨k2, hk2, -⟩ | ⟨b1, b2, b3, b4⟩
      · omega
      · obtain ⟨b5, b6⟩ := b4 ⟨by omega, by omega⟩
        exact Or.inr ⟨hx.1.trans k3, b5, by rw [hx.2, k4, up2_s, f3.1.1, b6]; exact ⟨by omega, by omega⟩⟩
  · rw [if_neg (fun hh => hh f1)] at hx
    simp only [rtn, Prod.mk.injEq] at hx
    obtain ⟨m5, m6⟩ := m1 f2
    exact Or.inr ⟨hx.1, m5, by rw [hx.2, m6]; exact f3⟩
