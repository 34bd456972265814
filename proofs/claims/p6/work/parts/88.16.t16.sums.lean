-- reading: sums, brackets of sums (own work)
theorem opsL.app {M : List Int} {k : Int} (h : M = [] ∨ ∃ m : Int, M = [m] ∧ 4 ≤ m ∧ m ≤ 6) (hk : k = 2 ∨ k = 3) : opsL (M ++ [k]) := by
  intro o ho
  rcases h with rfl | ⟨m, rfl, m1, m2⟩
  · simp only [List.nil_append, List.mem_cons, List.not_mem_nil, or_false] at ho; omega
  · simp only [List.cons_append, List.nil_append, List.mem_cons, List.not_mem_nil, or_false] at ho; omega
theorem opsL.one {M : List Int} (h : M = [] ∨ ∃ m : Int, M = [m] ∧ 4 ≤ m ∧ m ≤ 6) : opsL M := by
  intro o ho
  rcases h with rfl | ⟨m, rfl, m1, m2⟩
  · simp at ho
  · simp only [List.mem_cons, List.not_mem_nil, or_false] at ho; omega
theorem SUMS.of {d : Int} {trm : ((Nat → Nat → Int) → (Nat → Nat → Int) → (Nat → Nat → Nat) → Int × (Nat → Nat → Int) → Prop)} (hF : TRMS d trm) (hd : 0 ≤ d ∧ d ≤ 6) : SUMS d (sumX trm) := by
  intro t s z4 b a V W J Jm U R Rm r ht hR hS hW hb hz hx hm
  have tn := tx_ne ht
  have hs := hS.2.2.2.2.1
  unfold sumX at hx
  obtain ⟨z1, V1, h1, -, z1r, hx⟩ := hx
  rcases hF t s z4 b z1 [] V W J Jm V1 R Rm r ht hR hS (Or.inl rfl) hW hb hz h1 hm with ⟨f1, X1, M1, f2, f3, f4, f5, f6, f7, f8, f9, f10⟩ | hbad
  · rw [if_pos (by omega)] at hx
    obtain ⟨bT, hbT, hx⟩ := lop2_g hx
    have key : ∀ (n i : Nat) (V2 X : Nat → Nat → Int) (O : List Int), (i : Int) ≤ X 0 5 → opsL O → RB z4 Jm Rm X r → RS1 t d s V2 X O → WS X b O → KM b W X → KX t V V2 → W 0 5 < X 0 5 → (¬ sgnZ X = 42 ∧ ¬ sgnZ X = 47 ∧ ¬ sgnZ X = 37) → GR t V V2 (15 - 2 * d) → lop2 n bT (i : Int) V2 (a, U) →
        (a = 1 ∧ ∃ (X : Nat → Nat → Int) (O : List Int), opsL O ∧ RB z4 Jm Rm X r ∧ RS1 t d s U X O ∧ WS X b O ∧ KM b W X ∧ KX t V U ∧ W 0 5 < X 0 5 ∧ (¬ sgnZ X = 42 ∧ ¬ sgnZ X = 47 ∧ ¬ sgnZ X = 37 ∧ ¬ sgnZ X = 43 ∧ ¬ sgnZ X = 45) ∧ GR t V U (15 - 2 * d)) ∨ BAD a U r := by
      intro n
      induction n with
      | zero => intro i V2 X O _ _ _ _ _ _ _ _ _ _ hx; exact False.elim hx
      | succ n ih =>
        intro i V2 X O hi hO hB hS2 hWX hK hKX hlt hno hGR hx
        have hS3 := hS2
        obtain ⟨s1, s2, s3, s4, s5, s6⟩ := hS2
        have sp := s1.2.2.1
        rw [lop2_s hbT] at hx
        have done : (¬ sgnZ X = 43 ∧ ¬ sgnZ X = 45) → (a, U) = ((1 : Int), V2) → (a = 1 ∧ ∃ (X : Nat → Nat → Int) (O : List Int), opsL O ∧ RB z4 Jm Rm X r ∧ RS1 t d s U X O ∧ WS X b O ∧ KM b W X ∧ KX t V U ∧ W 0 5 < X 0 5 ∧ (¬ sgnZ X = 42 ∧ ¬ sgnZ X = 47 ∧ ¬ sgnZ X = 37 ∧ ¬ sgnZ X = 43 ∧ ¬ sgnZ X = 45) ∧ GR t V U (15 - 2 * d)) := fun h1 h2 => by
          simp only [Prod.mk.injEq] at h2
          obtain ⟨rfl, rfl⟩ := h2
          exact ⟨rfl, X, O, hO, hB, hS3, hWX, hK, hKX, hlt, by omega, hGR⟩
        by_cases g200 : (200 : Int) ≤ i
        · rw [if_pos g200] at hx
          refine Or.inl (done ?_ hx)
          unfold sgnZ
          rw [if_pos (by omega)]; decide
        · rw [if_neg g200] at hx
          obtain ⟨c, hc, hx⟩ := hx
          have hc := q_peek s1 hc
          subst hc
          obtain ⟨k, hk, kr, hx⟩ := hx
          have hk := q_stepOf hk
          -- a sign of a sum
          have step : (k = 2 ∨ k = 3) → (rdb (V2 72 2) fun z159 => rdb (wr (z159 + 1)) fun z160 => rdb (up2 V2 72 2 z160) fun V161 => calVX (fun i k : Nat => (72 ≤ i ∧ i ≤ 72) ∨ (R 72 1 ≤ i ∧ i ≤ R 72 1 + 4)) V161 (trm V161 J R) fun z162 V162 => fct (0 ≤ z162 ∧ z162 ≤ 1) <| (if ¬ z162 = 0 then rdb (R 72 1) fun t165 => calUX (fun i k : Nat => (t165 ≤ i ∧ i ≤ t165 + 4)) V162 (f_r_put t165 k 0 V162 J R) fun V166 => lop2 n bT ((i : Int) + 1) V166 else rtn (0, V162))) (a, U) →
              (a = 1 ∧ ∃ (X : Nat → Nat → Int) (O : List Int), opsL O ∧ RB z4 Jm Rm X r ∧ RS1 t d s U X O ∧ WS X b O ∧ KM b W X ∧ KX t V U ∧ W 0 5 < X 0 5 ∧ (¬ sgnZ X = 42 ∧ ¬ sgnZ X = 47 ∧ ¬ sgnZ X = 37 ∧ ¬ sgnZ X = 43 ∧ ¬ sgnZ X = 45) ∧ GR t V U (15 - 2 * d)) ∨ BAD a U r := fun hk2 hx => by
            have hltp := sgn_lt (W := X) (by omega)
            obtain ⟨q1, e1, hx⟩ := rdb_g hx
            obtain ⟨q2, e2, hx⟩ := rdb_g hx
            obtain ⟨V3, e3, hx⟩ := rdb_g hx
            rw [← e1, s1.1, wr_id ⟨by omega, by omega⟩] at e2
            rw [← e2] at e3
            obtain ⟨z7, V4, h4, -, z7r, hx⟩ := hx
            obtain ⟨sg, hsg, hcase⟩ := RB.sg hB hz.1 (by omega) (by omega)
            have hsg := q_sumSign hsg
            have esg : sg = k := by omega
            subst esg
            rcases hcase with ⟨c1, -⟩ | ⟨c1, X2, ⟨m2, hX2⟩, hRA⟩ | ⟨c1, -⟩
            · omega
            · have hb2 := hb.km hK (Int.le_refl _) hW.1
              obtain ⟨t1, t2, t3, t4, t5, t6, t7⟩ := closed (z4 := z4) (P := O) (A := []) (Or.inr rfl) hX2 hS3 (by rw [List.append_nil]; exact hWX) (fun o ho => by have := hO o ho; unfold popc; omega) hO (fun Y hY hWY => bot_np (Or.inr rfl) hb2 hY hWY)
              have hS4 := t1.psh (k := sg) ht (by omega)
              rw [t5] at hS4
              have hV3 : V3 = up2 V2 72 2 (X 0 5 + 1) := e3.symm
              rw [← hV3] at hS4
              have hW2 := t2.pshd (s := sg)
              have KM2 : KM b W (pshd X2 sg) := (hK.tr (t3 b) (Int.le_refl _)).tr (KM.push (by have := t2.2.1; omega) (by have := t2.2.1; have := t2.1; omega)) (Int.le_refl _)
              rcases hF t (s + 1) z4 b z7 [sg] V3 (pshd X2 sg) J Jm V4 R Rm r ht hR hS4 (by rcases hk2 with rfl | rfl; exact Or.inr (Or.inl rfl); exact Or.inr (Or.inr rfl)) hW2 (hb.km KM2 (Int.le_refl _) hW.1) hz h4 hRA with ⟨g1, X3, M, g2, g3, g5, g7, g8, g9, g10, g11, g12⟩ | hbad
              · rw [if_pos (by omega)] at hx
                obtain ⟨t0, et0, hx⟩ := rdb_g hx
                rw [hR] at et0
                subst et0
                obtain ⟨V5, h5, -, hx⟩ := hx
                have hlen := g5.2.2.2.2.2
                have hpos := g5.1.2.2.1
                have hp5 := q_put h5 (by omega) (by decide) (by have := g5.2.1.2.1; have := g5.2.1.1; omega)
                have hS5 := g5.put (k := sg) ht hs
                rw [← hp5] at hS5
                rw [pshd_5] at g10
                exact ih (i + 1) V5 X3 (M ++ [sg]) (by omega) (opsL.app g2 hk2) g3 hS5 g7 (KM2.tr g8 (Int.le_refl _)) ((hKX.tr (by rw [hV3]; exact KX.adv ht)).tr (g9.tr (by rw [hp5]; exact KX.put ht))) (by omega) g11 (by rw [hp5]; exact GR.op hGR (by rw [hV3, up2_n _ _ (Or.inl tn.1.1)]) (by rw [hV3, up2_c _ _ tn.1.2]) g12 (by omega) (by omega)) (by rw [Int.natCast_add]; exact hx)
              · rw [if_neg (by have := hbad.1; omega)] at hx
                simp only [rtn, Prod.mk.injEq] at hx
                obtain ⟨rfl, rfl⟩ := hx
                exact Or.inr ⟨rfl, hbad.2⟩
            · omega
          by_cases g2 : k = 2
          · rw [if_pos g2] at hx
            exact step (Or.inl g2) hx
          · rw [if_neg g2] at hx
            by_cases g3 : k = 3
            · rw [if_pos g3] at hx
              exact step (Or.inr g3) hx
            · rw [if_neg g3] at hx
              exact Or.inl (done (by omega) hx)
    exact key 202 0 V1 X1 M1 (by have := f4.1.2.2.1; omega) (opsL.one f2) f3 f4 (by rw [List.append_nil] at f5; exact f5) f6 f7 f8 f9 (f10.up (by omega)) hx
  · rw [if_neg (by have := hbad.1; omega)] at hx
    simp only [rtn, Prod.mk.injEq] at hx
    obtain ⟨rfl, rfl⟩ := hx
    exact Or.inr ⟨rfl, hbad.2⟩
/-- a bracket is entered -/
def ENT (d : Int) (ent : ((Nat → Nat → Int) → (Nat → Nat → Int) → (Nat → Nat → Nat) → Int × (Nat → Nat → Int) → Prop)) : Prop := ∀ (a : Int) (V J U : Nat → Nat → Int) (R : Nat → Nat → Nat), (0 ≤ V 72 2 ∧ V 72 2 ≤ 200) → ent V J R (a, U) → a = 1 ∧ U = up2 (up2 V 72 4 (d + 1)) 72 2 (V 72 2 + 1)
theorem ent0 : ENT 0 f_r_enter0 := by
  intro a V J U R hp h
  simp only [f_r_enter0, rdb, rtn, Prod.mk.injEq] at h
  rw [up2_n _ _ (Or.inr (by decide)), wr_id ⟨by omega, by omega⟩] at h
  exact h
theorem ent1 : ENT 1 f_r_enter1 := by
  intro a V J U R hp h
  simp only [f_r_enter1, rdb, rtn, Prod.mk.injEq] at h
  rw [up2_n _ _ (Or.inr (by decide)), wr_id ⟨by omega, by omega⟩] at h
  exact h
theorem ent2 : ENT 2 f_r_enter2 := by
  intro a V J U R hp h
  simp only [f_r_enter2, rdb, rtn, Prod.mk.injEq] at h
  rw [up2_n _ _ (Or.inr (by decide)), wr_id ⟨by omega, by omega⟩] at h
  exact h
theorem ent3 : ENT 3 f_r_enter3 := by
  intro a V J U R hp h
  simp only [f_r_enter3, rdb, rtn, Prod.mk.injEq] at h
  rw [up2_n _ _ (Or.inr (by decide)), wr_id ⟨by omega, by omega⟩] at h
  exact h
theorem ent4 : ENT 4 f_r_enter4 := by
  intro a V J U R hp h
  simp only [f_r_enter4, rdb, rtn, Prod.mk.injEq] at h
  rw [up2_n _ _ (Or.inr (by decide)), wr_id ⟨by omega, by omega⟩] at h
  exact h
theorem ent5 : ENT 5 f_r_enter5 := by
  intro a V J U R hp h
  simp only [f_r_enter5, rdb, rtn, Prod.mk.injEq] at h
  rw [up2_n _ _ (Or.inr (by decide)), wr_id ⟨by omega, by omega⟩] at h
  exact h
theorem opnd_0 (W : Nat → Nat → Int) (x : Int) {k : Nat} (h5 : k ≠ 5) (h11 : k ≠ 11) (h9 : k ≠ 9) : opnd W x 0 k = W 0 k := by unfold opnd; rw [up2_n _ _ (Or.inr h5), up2_n _ _ (Or.inr h11), up2_n _ _ (Or.inl (by decide)), up2_n _ _ (Or.inr h9)]
theorem opnd_v (W : Nat → Nat → Int) (x : Int) : opnd W x 0 5 = W 0 5 + 1 ∧ opnd W x 0 11 = W 0 11 + 1 ∧ opnd W x 0 9 = W 0 9 + 1 := by
  unfold opnd
  refine ⟨by rw [up2_s], by rw [up2_n _ _ (Or.inr (by decide)), up2_s], ?_⟩
  rw [up2_n _ _ (Or.inr (by decide)), up2_n _ _ (Or.inr (by decide)), up2_n _ _ (Or.inl (by decide)), up2_s]
theorem opnd_6 (W : Nat → Nat → Int) (x : Int) (k : Nat) : opnd W x 6 k = if k = (W 0 11).toNat then 1048576 * x else W 6 k := by
  unfold opnd
  rw [up2_n _ _ (Or.inl (by decide)), up2_n _ _ (Or.inl (by decide))]
  by_cases e : k = (W 0 11).toNat
  · subst e; rw [up2_s, if_pos rfl]
  · rw [up2_n _ _ (Or.inr e), if_neg e, up2_n _ _ (Or.inl (by decide))]
theorem opnd_r (W : Nat → Nat → Int) (x : Int) {i : Nat} (h : i ≠ 0) (h2 : i ≠ 6) : opnd W x i = W i := by unfold opnd; rw [up2_c _ _ h, up2_c _ _ h, up2_c _ _ h2, up2_c _ _ h]
theorem clsd_0 (W : Nat → Nat → Int) {k : Nat} (h5 : k ≠ 5) (h11 : k ≠ 11) (h9 : k ≠ 9) : clsd W 0 k = W 0 k := by unfold clsd; rw [up2_n _ _ (Or.inr h5), up2_n _ _ (Or.inr h9), up2_n _ _ (Or.inr h11)]
theorem clsd_v (W : Nat → Nat → Int) : clsd W 0 5 = W 0 5 + 1 ∧ clsd W 0 11 = W 0 11 - 1 ∧ clsd W 0 9 = W 0 9 - 1 := by
  unfold clsd
  refine ⟨by rw [up2_s], ?_, by rw [up2_n _ _ (Or.inr (by decide)), up2_s]⟩
  rw [up2_n _ _ (Or.inr (by decide)), up2_n _ _ (Or.inr (by decide)), up2_s]
theorem clsd_r (W : Nat → Nat → Int) {i : Nat} (h : i ≠ 0) : clsd W i = W i := by unfold clsd; rw [up2_c _ _ h, up2_c _ _ h, up2_c _ _ h]
theorem dv14 : iDiv (1048576 * 14) 1048576 = 14 := by decide
theorem BRS.of {d : Int} {ent sm cnd : ((Nat → Nat → Int) → (Nat → Nat → Int) → (Nat → Nat → Nat) → Int × (Nat → Nat → Int) → Prop)} (hE : ENT d ent) (hF : SUMS (d + 1) sm) (hd : 0 ≤ d ∧ d ≤ 5) : BRS d (brkX d ent sm cnd) := by
  intro t s z4 a V W J Jm U R Rm r ht hR hS hz h91 hx hm
  have tn := tx_ne ht
  have hS0 := hS
  obtain ⟨s1, s2, s3, s4, s5, s6⟩ := hS
  have sp := s1.2.2.1
  have hlt := sgn_lt (W := W) (by omega)
  unfold brkX at hx
  obtain ⟨z1, V1, h1, -, -, hx⟩ := hx
  obtain ⟨k1, k2⟩ := hE z1 V J V1 R (by have := s1.1; omega) h1
  rw [if_pos (by omega), if_pos (by decide)] at hx
  obtain ⟨z5, V5, h5, -, z5r, hx⟩ := hx
  rcases hm.opn h91 (by omega) with ⟨o1, -⟩ | ⟨o1, hRA⟩
  · omega
  have ov := opnd_v W 14
  have hV1 : ∀ k : Nat, k ≠ 2 → k ≠ 4 → V1 72 k = V 72 k := fun k a1 a2 => by rw [k2, up2_n _ _ (Or.inr a1), up2_n _ _ (Or.inr a2)]
  have hV1o : ∀ i : Nat, i ≠ 72 → V1 i = V i := fun i hi => by rw [k2, up2_c _ _ hi, up2_c _ _ hi]
  have S1 : RS1 t (d + 1) s V1 (opnd W 14) [] := by
    refine ⟨s1.to (by rw [k2, up2_s, ov.1, s1.1]) (hV1 3 (by decide) (by decide)) (opnd_0 W 14 (by decide) (by decide) (by decide)) (by rw [ov.1]; omega) (hV1o 58 (by decide)) (hV1o 59 (by decide)) (opnd_r W 14 (by decide) (by decide)), s2.to (by rw [hV1o t tn.1.1]) (hV1o _ tn.1.2) (opnd_0 W 14 (by decide) (by decide) (by decide)) (opnd_r W 14 (by decide) (by decide)), ?_, by rw [ov.2.2]; omega, s5, ?_⟩
    · rw [k2, up2_n _ _ (Or.inr (by decide)), up2_s]
    · rw [hV1o t tn.1.1, ov.1]; omega
  have kmo : KM (W 0 11) W (opnd W 14) := ⟨fun j hj => by rw [opnd_6, if_neg (by omega)], fun i i1 i2 i3 => opnd_r W 14 i1 i3, opnd_0 W 14 (by decide) (by decide) (by decide), opnd_0 W 14 (by decide) (by decide) (by decide), opnd_0 W 14 (by decide) (by decide) (by decide)⟩
  have m14 : opnd W 14 6 (W 0 11).toNat = 1048576 * 14 := by rw [opnd_6, if_pos rfl]
  rcases hF t s z4 (W 0 11 + 1) z5 V1 (opnd W 14) J Jm V5 R Rm r ht hR S1 ⟨by omega, by rw [ov.2.1]; simp, fun i hi => by simp at hi⟩ (Or.inr (by rw [show (W 0 11 + 1 - 1).toNat = (W 0 11).toNat by omega, m14, dv14]; omega)) ⟨hz.1, by omega⟩ h5 hRA with ⟨f1, X, O, f2, f3, f4, f5, f6, f7, f8, f9, f10⟩ | hbad
  · rw [if_neg (by omega)] at hx
    obtain ⟨z8, V8, h8, -, z8r, hx⟩ := hx
    have fp := f4.1.2.2.1
    have x14 : X 6 (W 0 11).toNat = 1048576 * 14 := by rw [f6.1 _ (by omega), m14]
    have hopen : z4 ≤ ((W 0 11).toNat : Int) ∧ ((W 0 11).toNat : Int) < X 0 11 ∧ iDiv (X 6 (W 0 11).toNat) 1048576 = 14 := ⟨by omega, by have := f5.2.1; omega, by rw [x14, dv14]⟩
    obtain ⟨sg, hsg, hcase⟩ := RB.sg f3 hz.1 (by have := f4.2.2.2.1; omega) (by omega)
    have hsg := q_sumSign hsg
    have esg : sg = -1 := by omega
    rcases q_sign f4.1 h8 with ⟨g1, g2, g3⟩ | ⟨g1, g2, g3⟩
    · rw [if_pos (by omega)] at hx
      obtain ⟨V10, e10, hx⟩ := rdb_g hx
      simp only [rtn, Prod.mk.injEq] at hx
      have hltX := sgn_lt (W := X) (by omega)
      rcases hcase with ⟨c1, -⟩ | ⟨c1, -⟩ | ⟨c1, ⟨d1, d2, X2, ⟨m2, hX2⟩, hRB⟩ | ⟨d1, -⟩ | ⟨d1, -⟩⟩
      · omega
      · omega
      · obtain ⟨t1, t2, t3, t4, t5, t6, t7⟩ := closed (z4 := z4) (P := O) (A := []) (Or.inr rfl) hX2 f4 (by rw [List.append_nil]; exact f5) (fun o ho => by have := f2 o ho; unfold popc; omega) f2 (fun Y hY hWY => bot_np (W := X) (Or.inr rfl) (Or.inr (by rw [show (W 0 11 + 1 - 1).toNat = (W 0 11).toNat by omega, x14, dv14]; omega)) hY hWY)
        obtain ⟨u1, u2, u3, u4, u5, u6⟩ := t1
        have n11 : X2 0 11 = W 0 11 + 1 := by have := t2.2.1; simpa using this
        have cv := clsd_v X2
        have hU : U = up2 (up2 V5 72 2 (X 0 5 + 1)) 72 4 d := by rw [hx.2, ← e10, g3]
        refine Or.inl ⟨hx.1, clsd X2, hRB (by omega), ⟨?_, ?_, ?_, by rw [cv.2.2]; omega, s5, ?_⟩, by rw [cv.2.1]; omega, ?_, ?_, ?_, ?_⟩
        · rw [hU]
          refine u1.to (by rw [up2_n _ _ (Or.inr (by decide)), up2_s, cv.1, t5]) (by rw [up2_n _ _ (Or.inr (by decide)), up2_n _ _ (Or.inr (by decide))]) (clsd_0 X2 (by decide) (by decide) (by decide)) (by rw [cv.1, t5, t6]; omega) (by rw [up2_c _ _ (by decide), up2_c _ _ (by decide)]) (by rw [up2_c _ _ (by decide), up2_c _ _ (by decide)]) (clsd_r X2 (by decide))
        · rw [hU]
          exact u2.to (by rw [up2_n _ _ (Or.inl tn.1.1), up2_n _ _ (Or.inl tn.1.1)]) (by rw [up2_c _ _ tn.1.2, up2_c _ _ tn.1.2]) (clsd_0 X2 (by decide) (by decide) (by decide)) (clsd_r X2 (by decide))
        · rw [hU, up2_s]
        · rw [hU, up2_n _ _ (Or.inl tn.1.1), up2_n _ _ (Or.inl tn.1.1), cv.1]; omega
        · refine (kmo.tr f6 (by omega)).tr ((t3 (W 0 11)).tr ⟨fun j _ => by rw [clsd_r X2 (by decide)], fun i i1 _ _ => clsd_r X2 i1, clsd_0 X2 (by decide) (by decide) (by decide), clsd_0 X2 (by decide) (by decide) (by decide), clsd_0 X2 (by decide) (by decide) (by decide)⟩ (Int.le_refl _)) (Int.le_refl _)
        · have kx1 : KX t V V1 := ⟨fun i i1 _ _ => hV1o i i1, fun k hk => by rw [hV1o t tn.1.1], hV1 3 (by decide) (by decide)⟩
          have kx2 : KX t V5 U := by
            rw [hU]
            exact ⟨fun i i1 _ _ => by rw [up2_c _ _ i1, up2_c _ _ i1], fun k hk => by rw [up2_n _ _ (Or.inl tn.1.1), up2_n _ _ (Or.inl tn.1.1)], by rw [up2_n _ _ (Or.inr (by decide)), up2_n _ _ (Or.inr (by decide))]⟩
          exact (kx1.tr f7).tr kx2
        · rw [cv.1, t5]; rw [ov.1] at f8; omega
        · exact GR.up (GR.cg f10 (by rw [hV1o t tn.1.1]) (hV1o _ tn.1.2) (by rw [hU, up2_n _ _ (Or.inl tn.1.1), up2_n _ _ (Or.inl tn.1.1)]) (by rw [hU, up2_c _ _ tn.1.2, up2_c _ _ tn.1.2])) (by omega)
      · exact absurd hopen.2.2 (d1 _ hopen.1 hopen.2.1)
      · exact absurd g1 d1
    · rw [if_neg (fun hh => hh g2)] at hx
      simp only [rtn, Prod.mk.injEq] at hx
      rcases hcase with ⟨c1, -⟩ | ⟨c1, -⟩ | ⟨c1, ⟨d1, -⟩ | ⟨d1, -⟩ | ⟨d1, d2, X2, d3, d4⟩⟩
      · omega
      · omega
      · exact absurd d1 g1
      · exact absurd hopen.2.2 (d1 _ hopen.1 hopen.2.1)
      · exact Or.inr ⟨hx.1, X2, d3, by rw [hx.2, g3, up2_s, d4]; exact ⟨rfl, by omega⟩⟩
  · rw [if_pos hbad.1] at hx
    simp only [rtn, Prod.mk.injEq] at hx
    exact Or.inr ⟨hx.1, by obtain ⟨-, X, x1, x2⟩ := hbad; exact ⟨X, x1, by rw [hx.2]; exact x2⟩⟩
theorem brs6 : BRS 6 f_r_bracket6 := by
  intro t s z4 a V W J Jm U R Rm r ht hR hS hz h91 hx hm
  obtain ⟨s1, s2, s3, s4, s5, s6⟩ := hS
  have sp := s1.2.2.1
  unfold f_r_bracket6 at hx
  obtain ⟨z1, V1, h1, -, -, hx⟩ := hx
  simp only [rtn, Prod.mk.injEq] at hx
  unfold f_r_enter6 at h1
  obtain ⟨z2, V2, h2, -, -, h1⟩ := h1
  simp only [rtn, Prod.mk.injEq] at h1
  obtain ⟨q1, q2⟩ := q_fail h2 (by decide) (by have := s1.1; omega)
  rcases hm.opn h91 (by omega) with ⟨o1, X, o2, o3⟩ | ⟨o1, -⟩
  · refine Or.inr ⟨hx.1, X, o2, ?_⟩
    rw [hx.2, h1.2, q2, up2_s, o3, s1.1]
    exact ⟨by omega, by omega⟩
  · exact absurd s4 o1
theorem sums6 : SUMS 6 f_r_sum6 := by rw [fx_sum6, fx_term6, fx_fact6]; exact SUMS.of (TRMS.of (FACS.of brs6 (by decide)) (by decide)) (by decide)
theorem sums5 : SUMS 5 f_r_sum5 := by rw [fx_sum5, fx_term5, fx_fact5, fx_brk5]; exact SUMS.of (TRMS.of (FACS.of (BRS.of ent5 sums6 (by decide)) (by decide)) (by decide)) (by decide)
theorem sums4 : SUMS 4 f_r_sum4 := by rw [fx_sum4, fx_term4, fx_fact4, fx_brk4]; exact SUMS.of (TRMS.of (FACS.of (BRS.of ent4 sums5 (by decide)) (by decide)) (by decide)) (by decide)
theorem sums3 : SUMS 3 f_r_sum3 := by rw [fx_sum3, fx_term3, fx_fact3, fx_brk3]; exact SUMS.of (TRMS.of (FACS.of (BRS.of ent3 sums4 (by decide)) (by decide)) (by decide)) (by decide)
theorem sums2 : SUMS 2 f_r_sum2 := by rw [fx_sum2, fx_term2, fx_fact2, fx_brk2]; exact SUMS.of (TRMS.of (FACS.of (BRS.of ent2 sums3 (by decide)) (by decide)) (by decide)) (by decide)
theorem sums1 : SUMS 1 f_r_sum1 := by rw [fx_sum1, fx_term1, fx_fact1, fx_brk1]; exact SUMS.of (TRMS.of (FACS.of (BRS.of ent1 sums2 (by decide)) (by decide)) (by decide)) (by decide)
theorem sums0 : SUMS 0 f_r_sum0 := by rw [fx_sum0, fx_term0, fx_fact0, fx_brk0]; exact SUMS.of (TRMS.of (FACS.of (BRS.of ent0 sums1 (by decide)) (by decide)) (by decide)) (by decide)
