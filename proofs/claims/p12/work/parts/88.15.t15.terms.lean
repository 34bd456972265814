section
-- reading: terms, sums, brackets (own work)
/-- behind closesSums -/
theorem closed {z4 x b : Int} {t : Nat} {d s : Int} {V W X J : Nat → Nat → Int} {R : Nat → Nat → Nat} {P A : List Int} {n : Nat} (hx : x = 0 ∨ x = 1) (h : lop1 n (clB x J R) W X) (hS : RS1 t d s V W P) (hW : WS W b (P ++ A)) (hP : ∀ o ∈ P, popc x o) (hP2 : opsL P) (hA : ∀ Y : Nat → Nat → Int, Y 6 = W 6 → WS Y b A → ¬ popc x (wtop Y)) : RS1 t d s V X [] ∧ WS X b A ∧ (∀ m : Int, KM m W X) ∧ X 6 = W 6 ∧ X 0 5 = W 0 5 ∧ X 0 6 = W 0 6 ∧ X 0 9 = W 0 9 := by
  have e := cl_all hx P A n b W h hW hP hA
  obtain ⟨s1, s2, s3, s4, s5, s6⟩ := hS
  have f0 : ∀ k : Nat, k ≠ 10 → k ≠ 11 → X 0 k = W 0 k := fun k k1 k2 => by rw [e]; exact fold_0 k1 k2 P W
  have fr : ∀ i : Nat, i ≠ 0 → i ≠ 5 → X i = W i := fun i i1 i2 => by rw [e]; exact fold_r i1 i2 P W
  refine ⟨⟨s1.to (by rw [f0 5 (by decide) (by decide)]; exact s1.1) rfl (f0 6 (by decide) (by decide)) (by rw [f0 5 (by decide) (by decide)]; have := s1.2.2.1; omega) rfl rfl (fr 4 (by decide) (by decide)), ?_, s3, by rw [f0 9 (by decide) (by decide)]; exact s4, s5, by rw [f0 5 (by decide) (by decide)]; exact s6⟩, ?_, fun m => by rw [e]; exact KM.fold P, fr 6 (by decide) (by decide), f0 5 (by decide) (by decide), f0 6 (by decide) (by decide), f0 9 (by decide) (by decide)⟩
  · rw [e]
    refine CA.fold P W ?_ (fun o ho => by have := hP2 o ho; omega)
    rw [List.append_nil]; exact s2
  · rw [e]; exact WS.fold P W hW
theorem bot_np {x : Int} {Y W : Nat → Nat → Int} {b : Int} (hx : x = 0 ∨ x = 1) (hb : bot W b) (h6 : Y 6 = W 6) (hW : WS Y b []) : ¬ popc x (wtop Y) := by
  obtain ⟨h1, h2, -⟩ := hW
  simp only [List.length_nil, Int.natCast_zero, Int.add_zero] at h2
  unfold wtop popc
  rw [h2, h6]
  rcases hb with hb | hb
  · rw [if_pos hb]; omega
  · by_cases g : b = 0
    · rw [if_pos g]; omega
    · rw [if_neg g]; omega
theorem pshd_5 (W : Nat → Nat → Int) (s : Int) : pshd W s 0 5 = W 0 5 + 1 := by unfold pshd; rw [up2_s]
theorem pshd_11 (W : Nat → Nat → Int) (s : Int) : pshd W s 0 11 = W 0 11 + 1 := by unfold pshd; rw [up2_n _ _ (Or.inr (by decide)), up2_s]
theorem pshd_0 (W : Nat → Nat → Int) (s : Int) {k : Nat} (h : k ≠ 5) (h2 : k ≠ 11) : pshd W s 0 k = W 0 k := by unfold pshd; rw [up2_n _ _ (Or.inr h), up2_n _ _ (Or.inr h2), up2_n _ _ (Or.inl (by decide))]
theorem pshd_r (W : Nat → Nat → Int) (s : Int) {i : Nat} (h : i ≠ 0) (h2 : i ≠ 6) : pshd W s i = W i := by unfold pshd; rw [up2_c _ _ h, up2_c _ _ h, up2_c _ _ h2]
theorem pshd6 {W : Nat → Nat → Int} {s : Int} {k : Nat} : pshd W s 6 k = up2 W 6 (W 0 11).toNat (1048576 * s) 6 k := by unfold pshd; rw [up2_n _ _ (Or.inl (by decide)), up2_n _ _ (Or.inl (by decide))]
theorem WS.pshd {W : Nat → Nat → Int} {b s : Int} {O : List Int} (h : WS W b O) : WS (pshd W s) b (s :: O) := by
  obtain ⟨h1, h2, h3⟩ := h
  refine ⟨h1, by rw [pshd_11, h2]; simp only [List.length_cons, Int.natCast_add]; omega, fun i hi => ?_⟩
  rw [pshd_11]
  simp only [List.length_cons] at hi
  cases i with
  | zero =>
    rw [show (W 0 11 + 1).toNat - 1 - 0 = (W 0 11).toNat by omega, pshd6, up2_s]; rfl
  | succ i =>
    rw [show (W 0 11 + 1).toNat - 1 - (i + 1) = (W 0 11).toNat - 1 - i by omega, pshd6, up2_n _ _ (Or.inr (by omega)), h3 i (by omega)]; rfl
/-- a sign of a sum is passed: the reference lays it on its stack -/
theorem RS1.psh {t : Nat} {d s k : Int} {V X : Nat → Nat → Int} (h : RS1 t d s V X []) (ht : isTx t) (hlt : X 0 5 < X 0 6) : RS1 t d (s + 1) (up2 V 72 2 (X 0 5 + 1)) (pshd X k) [] :=
  h.adv ht hlt rfl (pshd_5 X k) (pshd_0 X k (by decide) (by decide)) (pshd_0 X k (by decide) (by decide)) (pshd_0 X k (by decide) (by decide)) (pshd_r X k (by decide) (by decide)) (pshd_r X k (by decide) (by decide))
theorem KX.adv {t : Nat} {V : Nat → Nat → Int} {p : Int} (ht : isTx t) : KX t V (up2 V 72 2 p) := by
  have tn := tx_ne ht
  exact ⟨fun i a b c => up2_c _ _ a, fun k hk => up2_n _ _ (Or.inl tn.1.1), up2_n _ _ (Or.inr (by decide))⟩
theorem KX.put {t : Nat} {V : Nat → Nat → Int} {q : Nat} {x y : Int} (ht : isTx t) : KX t V (up2 (up2 V (t + 1) q x) t 1 y) := by
  have tn := tx_ne ht
  exact ⟨fun i a b c => by rw [up2_c _ _ b, up2_c _ _ c], fun k hk => by rw [up2_n _ _ (Or.inr hk), up2_n _ _ (Or.inl (by omega))], by rw [up2_n _ _ (Or.inl tn.1.1.symm), up2_n _ _ (Or.inl tn.1.2.symm)]⟩
/-- the first side puts the operator that it has read -/
theorem RS1.put {t : Nat} {d s k : Int} {V X : Nat → Nat → Int} {L : List Int} (h : RS1 t d (s + 1) V X L) (ht : isTx t) (hs : 0 ≤ s) : RS1 t d s (up2 (up2 V (t + 1) (V t 1).toNat (k + 16 * 0)) t 1 (V t 1 + 1)) X (L ++ [k]) := by
  have tn := tx_ne ht
  obtain ⟨s1, s2, s3, s4, s5, s6⟩ := h
  refine ⟨s1.to ?_ ?_ rfl (by have := s1.2.2.1; omega) ?_ ?_ rfl, s2.put, ?_, s4, hs, ?_⟩
  · rw [up2_n _ _ (Or.inl tn.1.1.symm), up2_n _ _ (Or.inl tn.1.2.symm)]; exact s1.1
  · rw [up2_n _ _ (Or.inl tn.1.1.symm), up2_n _ _ (Or.inl tn.1.2.symm)]
  · rw [up2_c _ _ tn.2.1.symm, up2_c _ _ tn.2.2.2.1.symm]
  · rw [up2_c _ _ tn.2.2.1.symm, up2_c _ _ tn.2.2.2.2.symm]
  · rw [up2_n _ _ (Or.inl tn.1.1.symm), up2_n _ _ (Or.inl tn.1.2.symm)]; exact s3
  · rw [up2_s]; omega
theorem bot.km {W X : Nat → Nat → Int} {b n : Int} (h : bot W b) (k : KM n W X) (hn : b ≤ n) (hb : 0 ≤ b) : bot X b := by
  rcases h with h | h
  · exact Or.inl h
  · by_cases g : b = 0
    · exact Or.inl g
    · exact Or.inr (by rw [k.1 _ (by omega)]; exact h)
theorem TRMS.of {d : Int} {fac : ((Nat → Nat → Int) → (Nat → Nat → Int) → (Nat → Nat → Nat) → Int × (Nat → Nat → Int) → Prop)} (hF : FACS d fac) (hd : 0 ≤ d ∧ d ≤ 6) : TRMS d (termX fac) := by
  intro t s z4 b a A V W J Jm U R Rm r ht hR hS hA hW hb hz hx hm
  have tn := tx_ne ht
  have hs := hS.2.2.2.2.1
  unfold termX at hx
  obtain ⟨z1, V1, h1, -, z1r, hx⟩ := hx
  have hW11 : b ≤ W 0 11 := by have := hW.2.1; omega
  rcases hF t s z4 z1 V W J Jm V1 R Rm r ht hR hS ⟨hz.1, by omega⟩ h1 hm with ⟨f1, X1, f2, f3, f4, f5, f6, f7, f10⟩ | hbad
  · rw [if_pos (by omega)] at hx
    obtain ⟨bT, hbT, hx⟩ := lop2_g hx
    have key : ∀ (n i : Nat) (V2 X : Nat → Nat → Int) (M : List Int), (i : Int) ≤ X 0 5 → (M = [] ∨ ∃ m : Int, M = [m] ∧ 4 ≤ m ∧ m ≤ 6) → RB z4 Jm Rm X r → RS1 t d s V2 X M → WS X b (M ++ A) → KM b W X → KX t V V2 → W 0 5 < X 0 5 → GR t V V2 (14 - 2 * d) → lop2 n bT (i : Int) V2 (a, U) →
        (a = 1 ∧ ∃ (X : Nat → Nat → Int) (M : List Int), (M = [] ∨ ∃ m : Int, M = [m] ∧ 4 ≤ m ∧ m ≤ 6) ∧ RB z4 Jm Rm X r ∧ RS1 t d s U X M ∧ WS X b (M ++ A) ∧ KM b W X ∧ KX t V U ∧ W 0 5 < X 0 5 ∧ (¬ sgnZ X = 42 ∧ ¬ sgnZ X = 47 ∧ ¬ sgnZ X = 37) ∧ GR t V U (14 - 2 * d)) ∨ BAD a U r := by
      intro n
      induction n with
      | zero => intro i V2 X M _ _ _ _ _ _ _ _ _ hx; exact False.elim hx
      | succ n ih =>
        intro i V2 X M hi hM hB hS2 hWX hK hKX hlt hGR hx
        have hS3 := hS2
        obtain ⟨s1, s2, s3, s4, s5, s6⟩ := hS2
        have sp := s1.2.2.1
        rw [lop2_s hbT] at hx
        have done : (¬ sgnZ X = 42 ∧ ¬ sgnZ X = 47 ∧ ¬ sgnZ X = 37) → (a, U) = ((1 : Int), V2) → (a = 1 ∧ ∃ (X : Nat → Nat → Int) (M : List Int), (M = [] ∨ ∃ m : Int, M = [m] ∧ 4 ≤ m ∧ m ≤ 6) ∧ RB z4 Jm Rm X r ∧ RS1 t d s U X M ∧ WS X b (M ++ A) ∧ KM b W X ∧ KX t V U ∧ W 0 5 < X 0 5 ∧ (¬ sgnZ X = 42 ∧ ¬ sgnZ X = 47 ∧ ¬ sgnZ X = 37) ∧ GR t V U (14 - 2 * d)) := fun h1 h2 => by
          simp only [Prod.mk.injEq] at h2
          obtain ⟨rfl, rfl⟩ := h2
          exact ⟨rfl, X, M, hM, hB, hS3, hWX, hK, hKX, hlt, h1, hGR⟩
        by_cases g200 : (200 : Int) ≤ i
        · rw [if_pos g200] at hx
          refine Or.inl (done ?_ hx)
          unfold sgnZ
          rw [if_pos (by omega)]; decide
        · rw [if_neg g200] at hx
          obtain ⟨c, hc, hx⟩ := hx
          have hc := q_peek s1 hc
          subst hc
          obtain ⟨k, hk, kr, hx⟩ := hx
          have hk := q_stepOf hk
          by_cases g4 : k < 4
          · rw [if_pos g4] at hx
            exact Or.inl (done (by omega) hx)
          · rw [if_neg g4] at hx
            by_cases g6 : k ≤ 6
            · rw [if_pos g6] at hx
              have hltp := sgn_lt (W := X) (by omega)
              obtain ⟨q1, e1, hx⟩ := rdb_g hx
              obtain ⟨q2, e2, hx⟩ := rdb_g hx
              obtain ⟨V3, e3, hx⟩ := rdb_g hx
              rw [← e1, s1.1, wr_id ⟨by omega, by omega⟩] at e2
              rw [← e2] at e3
              obtain ⟨z7, V4, h4, -, z7r, hx⟩ := hx
              -- the reference
              obtain ⟨sg, hsg, hcase⟩ := RB.sg hB hz.1 (by omega) (by omega)
              have hsg := q_sumSign hsg
              have esg : sg = k := by omega
              subst esg
              rcases hcase with ⟨c1, c2, X2, ⟨m2, hX2⟩, hRA⟩ | ⟨c1, -⟩ | ⟨c1, -⟩
              · have hb2 := hb.km hK (Int.le_refl _) hW.1
                obtain ⟨t1, t2, t3, t4, t5, t6, t7⟩ := closed (z4 := z4) (Or.inl rfl) hX2 hS3 hWX (fun o ho => by
                    rcases hM with rfl | ⟨m, rfl, m1, m3⟩
                    · simp at ho
                    · simp only [List.mem_cons, List.not_mem_nil, or_false] at ho; subst ho; exact Or.inl ⟨m1, m3⟩) (fun o ho => by
                    rcases hM with rfl | ⟨m, rfl, m1, m3⟩
                    · simp at ho
                    · simp only [List.mem_cons, List.not_mem_nil, or_false] at ho; subst ho; omega) (fun Y hY hWY => by
                    rcases hA with rfl | rfl | rfl
                    · exact bot_np (Or.inl rfl) hb2 hY hWY
                    · rw [hWY.top (by decide)]; unfold popc; omega
                    · rw [hWY.top (by decide)]; unfold popc; omega)
                have hS4 := t1.psh (k := sg) ht (by omega)
                rw [t5] at hS4
                have hV3 : V3 = up2 V2 72 2 (X 0 5 + 1) := e3.symm
                rw [← hV3] at hS4
                have hW2 := t2.pshd (s := sg)
                have e11 : pshd X2 sg 0 11 = b + A.length + 1 := by rw [pshd_11, t2.2.1]
                have KM2 : KM b W (pshd X2 sg) := (hK.tr (t3 b) (Int.le_refl _)).tr (KM.push (by have := t2.2.1; omega) (by have := t2.2.1; have := t2.1; omega)) (Int.le_refl _)
                rcases hF t (s + 1) z4 z7 V3 (pshd X2 sg) J Jm V4 R Rm r ht hR hS4 ⟨hz.1, by omega⟩ h4 hRA with ⟨g1, X3, g2, g3, g5, g7, g8, g9, g10⟩ | hbad
                · rw [if_pos (by omega)] at hx
                  obtain ⟨t0, et0, hx⟩ := rdb_g hx
                  rw [hR] at et0
                  subst et0
                  obtain ⟨V5, h5, -, hx⟩ := hx
                  have hlen := g3.2.2.2.2.2
                  have hpos := g3.1.2.2.1
                  have hp5 := q_put h5 (by omega) (by decide) (by have := g3.2.1.2.1; have := g3.2.1.1; simp only [List.length_nil] at *; omega)
                  have hS5 := g3.put (k := sg) ht hs
                  rw [← hp5] at hS5
                  refine ih (i + 1) V5 X3 [sg] ?_ (Or.inr ⟨sg, rfl, by omega, by omega⟩) g2 hS5 ?_ (KM2.tr g7 (by omega)) ((hKX.tr (by rw [hV3]; exact KX.adv ht)).tr (g8.tr (by rw [hp5]; exact KX.put ht))) ?_ (by rw [hp5]; exact GR.op hGR (by rw [hV3, up2_n _ _ (Or.inl tn.1.1)]) (by rw [hV3, up2_c _ _ tn.1.2]) g10 (by omega) (by omega)) (by rw [Int.natCast_add]; exact hx)
                  · rw [pshd_5] at g9; omega
                  · obtain ⟨w1, w2, w3⟩ := hW2
                    refine ⟨w1, by rw [g5]; exact w2, fun q hq => ?_⟩
                    rw [g5, g7.1 _ (by simp only [List.length_cons] at hq w2; rw [w2]; omega)]
                    exact w3 q hq
                  · rw [pshd_5] at g9; omega
                · rw [if_neg (by have := hbad.1; omega)] at hx
                  simp only [rtn, Prod.mk.injEq] at hx
                  obtain ⟨rfl, rfl⟩ := hx
                  exact Or.inr ⟨rfl, hbad.2⟩
              · omega
              · omega
            · rw [if_neg g6] at hx
              exact Or.inl (done (by omega) hx)
    exact key 202 0 V1 X1 [] (by have := f3.1.2.2.1; omega) (Or.inl rfl) f2 f3 ⟨hW.1, by rw [f4]; exact hW.2.1, fun q hq => by rw [f4, f5.1 _ (by have := hW.2.1; simp only [List.nil_append] at hq; omega)]; exact hW.2.2 q hq⟩ (⟨fun j hj => f5.1 j (by omega), f5.2⟩) f6 f7 (f10.up (by omega)) hx
  · rw [if_neg (by have := hbad.1; omega)] at hx
    simp only [rtn, Prod.mk.injEq] at hx
    obtain ⟨rfl, rfl⟩ := hx
    exact Or.inr ⟨rfl, hbad.2⟩
end
section
-- reading: sums, brackets of sums (own work)
theorem opsL.app {M : List Int} {k : Int} (h : M = [] ∨ ∃ m : Int, M = [m] ∧ 4 ≤ m ∧ m ≤ 6) (hk : k = 2 ∨ k = 3) : opsL (M ++ [k]) := by
  intro o ho
  rcases h with rfl | ⟨m, rfl, m1, m2⟩
  · simp only [List.nil_append, List.mem_cons, List.not_mem_nil, or_false] at ho; omega
  · simp only [List.cons_append, List.nil_append, List.mem_cons, List.not_mem_nil, or_false] at ho; omega
theorem opsL.one {M : List Int} (h : M = [] ∨ ∃ m : Int, M = [m] ∧ 4 ≤ m ∧ m ≤ 6) : opsL M := by
  intro o ho
  rcases h with rfl | ⟨m, rfl, m1, m2⟩
  · simp at ho
  · simp only [List.mem_cons, List.not_mem_nil, or_false] at ho; omega
theorem SUMS.of {d : Int} {trm : ((Nat → Nat → Int) → (Nat → Nat → Int) → (Nat → Nat → Nat) → Int × (Nat → Nat → Int) → Prop)} (hF : TRMS d trm) (hd : 0 ≤ d ∧ d ≤ 6) : SUMS d (sumX trm) := by
  intro t s z4 b a V W J Jm U R Rm r ht hR hS hW hb hz hx hm
  have tn := tx_ne ht
  have hs := hS.2.2.2.2.1
  unfold sumX at hx
  obtain ⟨z1, V1, h1, -, z1r, hx⟩ := hx
  rcases hF t s z4 b z1 [] V W J Jm V1 R Rm r ht hR hS (Or.inl rfl) hW hb hz h1 hm with ⟨f1, X1, M1, f2, f3, f4, f5, f6, f7, f8, f9, f10⟩ | hbad
  · rw [if_pos (by omega)] at hx
    obtain ⟨bT, hbT, hx⟩ := lop2_g hx
    have key : ∀ (n i : Nat) (V2 X : Nat → Nat → Int) (O : List Int), (i : Int) ≤ X 0 5 → opsL O → RB z4 Jm Rm X r → RS1 t d s V2 X O → WS X b O → KM b W X → KX t V V2 → W 0 5 < X 0 5 → (¬ sgnZ X = 42 ∧ ¬ sgnZ X = 47 ∧ ¬ sgnZ X = 37) → GR t V V2 (15 - 2 * d) → lop2 n bT (i : Int) V2 (a, U) →
        (a = 1 ∧ ∃ (X : Nat → Nat → Int) (O : List Int), opsL O ∧ RB z4 Jm Rm X r ∧ RS1 t d s U X O ∧ WS X b O ∧ KM b W X ∧ KX t V U ∧ W 0 5 < X 0 5 ∧ (¬ sgnZ X = 42 ∧ ¬ sgnZ X = 47 ∧ ¬ sgnZ X = 37 ∧ ¬ sgnZ X = 43 ∧ ¬ sgnZ X = 45) ∧ GR t V U (15 - 2 * d)) ∨ BAD a U r := by
      intro n
      induction n with
      | zero => intro i V2 X O _ _ _ _ _ _ _ _ _ _ hx; exact False.elim hx
      | succ n ih =>
        intro i V2 X O hi hO hB hS2 hWX hK hKX hlt hno hGR hx
        have hS3 := hS2
        obtain ⟨s1, s2, s3, s4, s5, s6⟩ := hS2
        have sp := s1.2.2.1
        rw [lop2_s hbT] at hx
        have done : (¬ sgnZ X = 43 ∧ ¬ sgnZ X = 45) → (a, U) = ((1 : Int), V2) → (a = 1 ∧ ∃ (X : Nat → Nat → Int) (O : List Int), opsL O ∧ RB z4 Jm Rm X r ∧ RS1 t d s U X O ∧ WS X b O ∧ KM b W X ∧ KX t V U ∧ W 0 5 < X 0 5 ∧ (¬ sgnZ X = 42 ∧ ¬ sgnZ X = 47 ∧ ¬ sgnZ X = 37 ∧ ¬ sgnZ X = 43 ∧ ¬ sgnZ X = 45) ∧ GR t V U (15 - 2 * d)) := fun h1 h2 => by
          simp only [Prod.mk.injEq] at h2
          obtain ⟨rfl, rfl⟩ := h2
          exact ⟨rfl, X, O, hO, hB, hS3, hWX, hK, hKX, hlt, by omega, hGR⟩
        by_cases g200 : (200 : Int) ≤ i
        · rw [if_pos g200] at hx
          refine Or.inl (done ?_ hx)
          unfold sgnZ
          rw [if_pos (by omega)]; decide
        · rw [if_neg g200] at hx
          obtain ⟨c, hc, hx⟩ := hx
          have hc := q_peek s1 hc
          subst hc
          obtain ⟨k, hk, kr, hx⟩ := hx
          have hk := q_stepOf hk
          -- a sign of a sum
          have step : (k = 2 ∨ k = 3) → (rdb (V2 72 2) fun z159 => rdb (wr (z159 + 1)) fun z160 => rdb (up2 V2 72 2 z160) fun V161 => calVX (fun i k : Nat => (72 ≤ i ∧ i ≤ 72) ∨ (R 72 1 ≤ i ∧ i ≤ R 72 1 + 4)) V161 (trm V161 J R) fun z162 V162 => fct (0 ≤ z162 ∧ z162 ≤ 1) <| (if ¬ z162 = 0 then rdb (R 72 1) fun t165 => calUX (fun i k : Nat => (t165 ≤ i ∧ i ≤ t165 + 4)) V162 (f_r_put t165 k 0 V162 J R) fun V166 => lop2 n bT ((i : Int) + 1) V166 else rtn (0, V162))) (a, U) →
              (a = 1 ∧ ∃ (X : Nat → Nat → Int) (O : List Int), opsL O ∧ RB z4 Jm Rm X r ∧ RS1 t d s U X O ∧ WS X b O ∧ KM b W X ∧ KX t V U ∧ W 0 5 < X 0 5 ∧ (¬ sgnZ X = 42 ∧ ¬ sgnZ X = 47 ∧ ¬ sgnZ X = 37 ∧ ¬ sgnZ X = 43 ∧ ¬ sgnZ X = 45) ∧ GR t V U (15 - 2 * d)) ∨ BAD a U r := fun hk2 hx => by
            have hltp := sgn_lt (W := X) (by omega)
            obtain ⟨q1, e1, hx⟩ := rdb_g hx
            obtain ⟨q2, e2, hx⟩ := rdb_g hx
            obtain ⟨V3, e3, hx⟩ := rdb_g hx
            rw [← e1, s1.1, wr_id ⟨by omega, by omega⟩] at e2
            rw [← e2] at e3
            obtain ⟨z7, V4, h4, -, z7r, hx⟩ := hx
            obtain ⟨sg, hsg, hcase⟩ := RB.sg hB hz.1 (by omega) (by omega)
            have hsg := q_sumSign hsg
            have esg : sg = k := by omega
            subst esg
            rcases hcase with ⟨c1, -⟩ | ⟨c1, X2, ⟨m2, hX2⟩, hRA⟩ | ⟨c1, -⟩
            · omega
            · have hb2 := hb.km hK (Int.le_refl _) hW.1
              obtain ⟨t1, t2, t3, t4, t5, t6, t7⟩ := closed (z4 := z4) (P := O) (A := []) (Or.inr rfl) hX2 hS3 (by rw [List.append_nil]; exact hWX) (fun o ho => by have := hO o ho; unfold popc; omega) hO (fun Y hY hWY => bot_np (Or.inr rfl) hb2 hY hWY)
              have hS4 := t1.psh (k := sg) ht (by omega)
              rw [t5] at hS4
              have hV3 : V3 = up2 V2 72 2 (X 0 5 + 1) := e3.symm
              rw [← hV3] at hS4
              have hW2 := t2.pshd (s := sg)
              have KM2 : KM b W (pshd X2 sg) := (hK.tr (t3 b) (Int.le_refl _)).tr (KM.push (by have := t2.2.1; omega) (by have := t2.2.1; have := t2.1; omega)) (Int.le_refl _)
              rcases hF t (s + 1) z4 b z7 [sg] V3 (pshd X2 sg) J Jm V4 R Rm r ht hR hS4 (by rcases hk2 with rfl | rfl; exact Or.inr (Or.inl rfl); exact Or.inr (Or.inr rfl)) hW2 (hb.km KM2 (Int.le_refl _) hW.1) hz h4 hRA with ⟨g1, X3, M, g2, g3, g5, g7, g8, g9, g10, g11, g12⟩ | hbad
              · rw [if_pos (by omega)] at hx
                obtain ⟨t0, et0, hx⟩ := rdb_g hx
                rw [hR] at et0
                subst et0
                obtain ⟨V5, h5, -, hx⟩ := hx
                have hlen := g5.2.2.2.2.2
                have hpos := g5.1.2.2.1
                have hp5 := q_put h5 (by omega) (by decide) (by have := g5.2.1.2.1; have := g5.2.1.1; omega)
                have hS5 := g5.put (k := sg) ht hs
                rw [← hp5] at hS5
                rw [pshd_5] at g10
                exact ih (i + 1) V5 X3 (M ++ [sg]) (by omega) (opsL.app g2 hk2) g3 hS5 g7 (KM2.tr g8 (Int.le_refl _)) ((hKX.tr (by rw [hV3]; exact KX.adv ht)).tr (g9.tr (by rw [hp5]; exact KX.put ht))) (by omega) g11 (by rw [hp5]; exact GR.op hGR (by rw [hV3, up2_n _ _ (Or.inl tn.1.1)]) (by rw [hV3, up2_c _ _ tn.1.2]) g12 (by omega) (by omega)) (by rw [Int.natCast_add]; exact hx)
              · rw [if_neg (by have := hbad.1; omega)] at hx
                simp only [rtn, Prod.mk.injEq] at hx
                obtain ⟨rfl, rfl⟩ := hx
                exact Or.inr ⟨rfl, hbad.2⟩
            · omega
          by_cases g2 : k = 2
          · rw [if_pos g2] at hx
            exact step (Or.inl g2) hx
          · rw [if_neg g2] at hx
            by_cases g3 : k = 3
            · rw [if_pos g3] at hx
              exact step (Or.inr g3) hx
            · rw [if_neg g3] at hx
              exact Or.inl (done (by omega) hx)
    exact key 202 0 V1 X1 M1 (by have := f4.1.2.2.1; omega) (opsL.one f2) f3 f4 (by rw [List.append_nil] at f5; exact f5) f6 f7 f8 f9 (f10.up (by omega)) hx
  · rw [if_neg (by have := hbad.1; omega)] at hx
    simp only [rtn, Prod.mk.injEq] at hx
    obtain ⟨rfl, rfl⟩ := hx
    exact Or.inr ⟨rfl, hbad.2⟩
/-- a bracket is entered -/
def ENT (d : Int) (ent : ((Nat → Nat → Int) → (Nat → Nat → Int) → (Nat → Nat → Nat) → Int × (Nat → Nat → Int) → Prop)) : Prop := ∀ (a : Int) (V J U : Nat → Nat → Int) (R : Nat → Nat → Nat), (0 ≤ V 72 2 ∧ V 72 2 ≤ 200) → ent V J R (a, U) → a = 1 ∧ U = up2 (up2 V 72 4 (d + 1)) 72 2 (V 72 2 + 1)
theorem ent0 : ENT 0 f_r_enter0 := by
  intro a V J U R hp h
  simp only [f_r_enter0, rdb, rtn, Prod.mk.injEq] at h
  rw [up2_n _ _ (Or.inr (by decide)), wr_id ⟨by omega, by omega⟩] at h
  exact h
theorem ent1 : ENT 1 f_r_enter1 := by
  intro a V J U R hp h
  simp only [f_r_enter1, rdb, rtn, Prod.mk.injEq] at h
  rw [up2_n _ _ (Or.inr (by decide)), wr_id ⟨by omega, by omega⟩] at h
  exact h
theorem ent2 : ENT 2 f_r_enter2 := by
  intro a V J U R hp h
  simp only [f_r_enter2, rdb, rtn, Prod.mk.injEq] at h
  rw [up2_n _ _ (Or.inr (by decide)), wr_id ⟨by omega, by omega⟩] at h
  exact h
theorem ent3 : ENT 3 f_r_enter3 := by
  intro a V J U R hp h
  simp only [f_r_enter3, rdb, rtn, Prod.mk.injEq] at h
  rw [up2_n _ _ (Or.inr (by decide)), wr_id ⟨by omega, by omega⟩] at h
  exact h
theorem ent4 : ENT 4 f_r_enter4 := by
  intro a V J U R hp h
  simp only [f_r_enter4, rdb, rtn, Prod.mk.injEq] at h
  rw [up2_n _ _ (Or.inr (by decide)), wr_id ⟨by omega, by omega⟩] at h
  exact h
theorem ent5 : ENT 5 f_r_enter5 := by
  intro a V J U R hp h
  simp only [f_r_enter5, rdb, rtn, Prod.mk.injEq] at h
  rw [up2_n _ _ (Or.inr (by decide)), wr_id ⟨by omega, by omega⟩] at h
  exact h
theorem opnd_0 (W : Nat → Nat → Int) (x : Int) {k : Nat} (h5 : k ≠ 5) (h11 : k ≠ 11) (h9 : k ≠ 9) : opnd W x 0 k = W 0 k := by unfold opnd; rw [up2_n _ _ (Or.inr h5), up2_n _ _ (Or.inr h11), up2_n _ _ (Or.inl (by decide)), up2_n _ _ (Or.inr h9)]
theorem opnd_v (W : Nat → Nat → Int) (x : Int) : opnd W x 0 5 = W 0 5 + 1 ∧ opnd W x 0 11 = W 0 11 + 1 ∧ opnd W x 0 9 = W 0 9 + 1 := by
  unfold opnd
  refine ⟨by rw [up2_s], by rw [up2_n _ _ (Or.inr (by decide)), up2_s], ?_⟩
  rw [up2_n _ _ (Or.inr (by decide)), up2_n _ _ (Or.inr (by decide)), up2_n _ _ (Or.inl (by decide)), up2_s]
theorem opnd_6 (W : Nat → Nat → Int) (x : Int) (k : Nat) : opnd W x 6 k = if k = (W 0 11).toNat then 1048576 * x else W 6 k := by
  unfold opnd
  rw [up2_n _ _ (Or.inl (by decide)), up2_n _ _ (Or.inl (by decide))]
  by_cases e : k = (W 0 11).toNat
  · subst e; rw [up2_s, if_pos rfl]
  · rw [up2_n _ _ (Or.inr e), if_neg e, up2_n _ _ (Or.inl (by decide))]
theorem opnd_r (W : Nat → Nat → Int) (x : Int) {i : Nat} (h : i ≠ 0) (h2 : i ≠ 6) : opnd W x i = W i := by unfold opnd; rw [up2_c _ _ h, up2_c _ _ h, up2_c _ _ h2, up2_c _ _ h]
theorem clsd_0 (W : Nat → Nat → Int) {k : Nat} (h5 : k ≠ 5) (h11 : k ≠ 11) (h9 : k ≠ 9) : clsd W 0 k = W 0 k := by unfold clsd; rw [up2_n _ _ (Or.inr h5), up2_n _ _ (Or.inr h9), up2_n _ _ (Or.inr h11)]
theorem clsd_v (W : Nat → Nat → Int) : clsd W 0 5 = W 0 5 + 1 ∧ clsd W 0 11 = W 0 11 - 1 ∧ clsd W 0 9 = W 0 9 - 1 := by
  unfold clsd
  refine ⟨by rw [up2_s], ?_, by rw [up2_n _ _ (Or.inr (by decide)), up2_s]⟩
  rw [up2_n _ _ (Or.inr (by decide)), up2_n _ _ (Or.inr (by decide)), up2_s]
theorem clsd_r (W : Nat → Nat → Int) {i : Nat} (h : i ≠ 0) : clsd W i = W i := by unfold clsd; rw [up2_c _ _ h, up2_c _ _ h, up2_c _ _ h]
theorem dv14 : iDiv (1048576 * 14) 1048576 = 14 := by decide
theorem BRS.of {d : Int} {ent sm cnd : ((Nat → Nat → Int) → (Nat → Nat → Int) → (Nat → Nat → Nat) → Int × (Nat → Nat → Int) → Prop)} (hE : ENT d ent) (hF : SUMS (d + 1) sm) (hd : 0 ≤ d ∧ d ≤ 5) : BRS d (brkX d ent sm cnd) := by
  intro t s z4 a V W J Jm U R Rm r ht hR hS hz h91 hx hm
  have tn := tx_ne ht
  have hS0 := hS
  obtain ⟨s1, s2, s3, s4, s5, s6⟩ := hS
  have sp := s1.2.2.1
  have hlt := sgn_lt (W := W) (by omega)
  unfold brkX at hx
  obtain ⟨z1, V1, h1, -, -, hx⟩ := hx
  obtain ⟨k1, k2⟩ := hE z1 V J V1 R (by have := s1.1; omega) h1
  rw [if_pos (by omega), if_pos (by decide)] at hx
  obtain ⟨z5, V5, h5, -, z5r, hx⟩ := hx
  rcases hm.opn h91 (by omega) with ⟨o1, -⟩ | ⟨o1, hRA⟩
  · omega
  have ov := opnd_v W 14
  have hV1 : ∀ k : Nat, k ≠ 2 → k ≠ 4 → V1 72 k = V 72 k := fun k a1 a2 => by rw [k2, up2_n _ _ (Or.inr a1), up2_n _ _ (Or.inr a2)]
  have hV1o : ∀ i : Nat, i ≠ 72 → V1 i = V i := fun i hi => by rw [k2, up2_c _ _ hi, up2_c _ _ hi]
  have S1 : RS1 t (d + 1) s V1 (opnd W 14) [] := by
    refine ⟨s1.to (by rw [k2, up2_s, ov.1, s1.1]) (hV1 3 (by decide) (by decide)) (opnd_0 W 14 (by decide) (by decide) (by decide)) (by rw [ov.1]; omega) (hV1o 58 (by decide)) (hV1o 59 (by decide)) (opnd_r W 14 (by decide) (by decide)), s2.to (by rw [hV1o t tn.1.1]) (hV1o _ tn.1.2) (opnd_0 W 14 (by decide) (by decide) (by decide)) (opnd_r W 14 (by decide) (by decide)), ?_, by rw [ov.2.2]; omega, s5, ?_⟩
    · rw [k2, up2_n _ _ (Or.inr (by decide)), up2_s]
    · rw [hV1o t tn.1.1, ov.1]; omega
  have kmo : KM (W 0 11) W (opnd W 14) := ⟨fun j hj => by rw [opnd_6, if_neg (by omega)], fun i i1 i2 i3 => opnd_r W 14 i1 i3, opnd_0 W 14 (by decide) (by decide) (by decide), opnd_0 W 14 (by decide) (by decide) (by decide), opnd_0 W 14 (by decide) (by decide) (by decide)⟩
  have m14 : opnd W 14 6 (W 0 11).toNat = 1048576 * 14 := by rw [opnd_6, if_pos rfl]
  rcases hF t s z4 (W 0 11 + 1) z5 V1 (opnd W 14) J Jm V5 R Rm r ht hR S1 ⟨by omega, by rw [ov.2.1]; simp, fun i hi => by simp at hi⟩ (Or.inr (by rw [show (W 0 11 + 1 - 1).toNat = (W 0 11).toNat by omega, m14, dv14]; omega)) ⟨hz.1, by omega⟩ h5 hRA with ⟨f1, X, O, f2, f3, f4, f5, f6, f7, f8, f9, f10⟩ | hbad
  · rw [if_neg (by omega)] at hx
    obtain ⟨z8, V8, h8, -, z8r, hx⟩ := hx
    have fp := f4.1.2.2.1
    have x14 : X 6 (W 0 11).toNat = 1048576 * 14 := by rw [f6.1 _ (by omega), m14]
    have hopen : z4 ≤ ((W 0 11).toNat : Int) ∧ ((W 0 11).toNat : Int) < X 0 11 ∧ iDiv (X 6 (W 0 11).toNat) 1048576 = 14 := ⟨by omega, by have := f5.2.1; omega, by rw [x14, dv14]⟩
    obtain ⟨sg, hsg, hcase⟩ := RB.sg f3 hz.1 (by have := f4.2.2.2.1; omega) (by omega)
    have hsg := q_sumSign hsg
    have esg : sg = -1 := by omega
    rcases q_sign f4.1 h8 with ⟨g1, g2, g3⟩ | ⟨g1, g2, g3⟩
    · rw [if_pos (by omega)] at hx
      obtain ⟨V10, e10, hx⟩ := rdb_g hx
      simp only [rtn, Prod.mk.injEq] at hx
      have hltX := sgn_lt (W := X) (by omega)
      rcases hcase with ⟨c1, -⟩ | ⟨c1, -⟩ | ⟨c1, ⟨d1, d2, X2, ⟨m2, hX2⟩, hRB⟩ | ⟨d1, -⟩ | ⟨d1, -⟩⟩
      · omega
      · omega
      · obtain ⟨t1, t2, t3, t4, t5, t6, t7⟩ := closed (z4 := z4) (P := O) (A := []) (Or.inr rfl) hX2 f4 (by rw [List.append_nil]; exact f5) (fun o ho => by have := f2 o ho; unfold popc; omega) f2 (fun Y hY hWY => bot_np (W := X) (Or.inr rfl) (Or.inr (by rw [show (W 0 11 + 1 - 1).toNat = (W 0 11).toNat by omega, x14, dv14]; omega)) hY hWY)
        obtain ⟨u1, u2, u3, u4, u5, u6⟩ := t1
        have n11 : X2 0 11 = W 0 11 + 1 := by have := t2.2.1; simpa using this
        have cv := clsd_v X2
        have hU : U = up2 (up2 V5 72 2 (X 0 5 + 1)) 72 4 d := by rw [hx.2, ← e10, g3]
        refine Or.inl ⟨hx.1, clsd X2, hRB (by omega), ⟨?_, ?_, ?_, by rw [cv.2.2]; omega, s5, ?_⟩, by rw [cv.2.1]; omega, ?_, ?_, ?_, ?_⟩
        · rw [hU]
          refine u1.to (by rw [up2_n _ _ (Or.inr (by decide)), up2_s, cv.1, t5]) (by rw [up2_n _ _ (Or.inr (by decide)), up2_n _ _ (Or.inr (by decide))]) (clsd_0 X2 (by decide) (by decide) (by decide)) (by rw [cv.1, t5, t6]; omega) (by rw [up2_c _ _ (by decide), up2_c _ _ (by decide)]) (by rw [up2_c _ _ (by decide), up2_c _ _ (by decide)]) (clsd_r X2 (by decide))
        · rw [hU]
          exact u2.to (by rw [up2_n _ _ (Or.inl tn.1.1), up2_n _ _ (Or.inl tn.1.1)]) (by rw [up2_c _ _ tn.1.2, up2_c _ _ tn.1.2]) (clsd_0 X2 (by decide) (by decide) (by decide)) (clsd_r X2 (by decide))
        · rw [hU, up2_s]
        · rw [hU, up2_n _ _ (Or.inl tn.1.1), up2_n _ _ (Or.inl tn.1.1), cv.1]; omega
        · refine (kmo.tr f6 (by omega)).tr ((t3 (W 0 11)).tr ⟨fun j _ => by rw [clsd_r X2 (by decide)], fun i i1 _ _ => clsd_r X2 i1, clsd_0 X2 (by decide) (by decide) (by decide), clsd_0 X2 (by decide) (by decide) (by decide), clsd_0 X2 (by decide) (by decide) (by decide)⟩ (Int.le_refl _)) (Int.le_refl _)
        · have kx1 : KX t V V1 := ⟨fun i i1 _ _ => hV1o i i1, fun k hk => by rw [hV1o t tn.1.1], hV1 3 (by decide) (by decide)⟩
          have kx2 : KX t V5 U := by
            rw [hU]
            exact ⟨fun i i1 _ _ => by rw [up2_c _ _ i1, up2_c _ _ i1], fun k hk => by rw [up2_n _ _ (Or.inl tn.1.1), up2_n _ _ (Or.inl tn.1.1)], by rw [up2_n _ _ (Or.inr (by decide)), up2_n _ _ (Or.inr (by decide))]⟩
          exact (kx1.tr f7).tr kx2
        · rw [cv.1, t5]; rw [ov.1] at f8; omega
        · exact GR.up (GR.cg f10 (by rw [hV1o t tn.1.1]) (hV1o _ tn.1.2) (by rw [hU, up2_n _ _ (Or.inl tn.1.1), up2_n _ _ (Or.inl tn.1.1)]) (by rw [hU, up2_c _ _ tn.1.2, up2_c _ _ tn.1.2])) (by omega)
      · exact absurd hopen.2.2 (d1 _ hopen.1 hopen.2.1)
      · exact absurd g1 d1
    · rw [if_neg (fun hh => hh g2)] at hx
      simp only [rtn, Prod.mk.injEq] at hx
      rcases hcase with ⟨c1, -⟩ | ⟨c1, -⟩ | ⟨c1, ⟨d1, -⟩ | ⟨d1, -⟩ | ⟨d1, d2, X2, d3, d4⟩⟩
      · omega
      · omega
      · exact absurd d1 g1
      · exact absurd hopen.2.2 (d1 _ hopen.1 hopen.2.1)
      · exact Or.inr ⟨hx.1, X2, d3, by rw [hx.2, g3, up2_s, d4]; exact ⟨rfl, by omega⟩⟩
  · rw [if_pos hbad.1] at hx
    simp only [rtn, Prod.mk.injEq] at hx
    exact Or.inr ⟨hx.1, by obtain ⟨-, X, x1, x2⟩ := hbad; exact ⟨X, x1, by rw [hx.2]; exact x2⟩⟩
theorem brs6 : BRS 6 f_r_bracket6 := by
  intro t s z4 a V W J Jm U R Rm r ht hR hS hz h91 hx hm
  obtain ⟨s1, s2, s3, s4, s5, s6⟩ := hS
  have sp := s1.2.2.1
  unfold f_r_bracket6 at hx
  obtain ⟨z1, V1, h1, -, -, hx⟩ := hx
  simp only [rtn, Prod.mk.injEq] at hx
  unfold f_r_enter6 at h1
  obtain ⟨z2, V2, h2, -, -, h1⟩ := h1
  simp only [rtn, Prod.mk.injEq] at h1
  obtain ⟨q1, q2⟩ := q_fail h2 (by decide) (by have := s1.1; omega)
  rcases hm.opn h91 (by omega) with ⟨o1, X, o2, o3⟩ | ⟨o1, -⟩
  · refine Or.inr ⟨hx.1, X, o2, ?_⟩
    rw [hx.2, h1.2, q2, up2_s, o3, s1.1]
    exact ⟨by omega, by omega⟩
  · exact absurd s4 o1
theorem sums6 : SUMS 6 f_r_sum6 := by rw [fx_sum6, fx_term6, fx_fact6]; exact SUMS.of (TRMS.of (FACS.of brs6 (by decide)) (by decide)) (by decide)
theorem sums5 : SUMS 5 f_r_sum5 := by rw [fx_sum5, fx_term5, fx_fact5, fx_brk5]; exact SUMS.of (TRMS.of (FACS.of (BRS.of ent5 sums6 (by decide)) (by decide)) (by decide)) (by decide)
theorem sums4 : SUMS 4 f_r_sum4 := by rw [fx_sum4, fx_term4, fx_fact4, fx_brk4]; exact SUMS.of (TRMS.of (FACS.of (BRS.of ent4 sums5 (by decide)) (by decide)) (by decide)) (by decide)
theorem sums3 : SUMS 3 f_r_sum3 := by rw [fx_sum3, fx_term3, fx_fact3, fx_brk3]; exact SUMS.of (TRMS.of (FACS.of (BRS.of ent3 sums4 (by decide)) (by decide)) (by decide)) (by decide)
theorem sums2 : SUMS 2 f_r_sum2 := by rw [fx_sum2, fx_term2, fx_fact2, fx_brk2]; exact SUMS.of (TRMS.of (FACS.of (BRS.of ent2 sums3 (by decide)) (by decide)) (by decide)) (by decide)
theorem sums1 : SUMS 1 f_r_sum1 := by rw [fx_sum1, fx_term1, fx_fact1, fx_brk1]; exact SUMS.of (TRMS.of (FACS.of (BRS.of ent1 sums2 (by decide)) (by decide)) (by decide)) (by decide)
theorem sums0 : SUMS 0 f_r_sum0 := by rw [fx_sum0, fx_term0, fx_fact0, fx_brk0]; exact SUMS.of (TRMS.of (FACS.of (BRS.of ent0 sums1 (by decide)) (by decide)) (by decide)) (by decide)
end
section
-- reading: conditions, how the reference goes on (own work)
def enB (J : Nat → Nat → Int) (Rr : Nat → Nat → Nat) : ((Nat → Nat → Int) → (Nat → Nat → Int) → Prop) → (Nat → Nat → Int) → (Nat → Nat → Int) → Prop :=
  (fun rc23 (V23 : Nat → Nat → Int) => rdb (V23 0 5) fun z24 => fct (0 ≤ z24 ∧ z24 ≤ 220) <| rdb (V23 0 6) fun z25 => fct (0 ≤ z25 ∧ z25 ≤ 220) <| rdb (V23 0 10) fun z26 => fct (0 ≤ z26 ∧ z26 ≤ 220) <| rdb (V23 0 11) fun z27 => fct (0 ≤ z27 ∧ z27 ≤ 220) <| calR (f_m_waitTop V23 J Rr) fun z28 => (if ¬ z28 = 10 then rtn V23 else calUM 590295810358705652736 V23 (f_m_notes 10 0 V23 J Rr) fun V30 => rdb (up2 V30 0 11 (z27 - 1)) fun V31 => rdb (V31 0 9) fun z32 => rdb (wr (z32 - 1)) fun z33 => rdb (up2 V31 0 9 z33) fun V34 => rc23 V34))
def laB (x1 : Int) (J : Nat → Nat → Int) (Rr : Nat → Nat → Nat) : ((Nat → Nat → Int) → (Nat → Nat → Int) → Prop) → (Nat → Nat → Int) → (Nat → Nat → Int) → Prop :=
  (fun rc47 (V47 : Nat → Nat → Int) => rdb (V47 0 5) fun z48 => fct (0 ≤ z48 ∧ z48 ≤ 220) <| rdb (V47 0 6) fun z49 => fct (0 ≤ z49 ∧ z49 ≤ 220) <| rdb (V47 0 10) fun z50 => fct (0 ≤ z50 ∧ z50 ≤ 220) <| rdb (V47 0 11) fun z51 => fct (0 ≤ z51 ∧ z51 ≤ 220) <| calR (f_m_waitTop V47 J Rr) fun z52 => (if z52 = 11 then rdb (V47 6 ((z51 - 1).toNat)) fun z54 => rdb (iRem z54 1048576) fun z55 => fct (-1048575 ≤ z55 ∧ z55 ≤ 1048575) <| rdb (V47 5 z55.toNat) fun z57 => rdb (iDiv z57 1048576) fun z58 => rdb (up2 V47 5 z55.toNat (1048576 * z58 + z50)) fun V59 => rdb (up2 V59 0 11 (z51 - 1)) fun V60 => rc47 V60 else (if x1 = 0 then rtn V47 else calR (f_m_waitTop V47 J Rr) fun z62 => (if ¬ z62 = 12 then rtn V47 else rdb (V47 6 ((z51 - 1).toNat)) fun z64 => rdb (iRem z64 1048576) fun z65 => fct (-1048575 ≤ z65 ∧ z65 ≤ 1048575) <| rdb (V47 5 z65.toNat) fun z67 => rdb (iDiv z67 1048576) fun z68 => rdb (up2 V47 5 z65.toNat (1048576 * z68 + z50)) fun V69 => rdb (up2 V69 0 11 (z51 - 1)) fun V70 => rc47 V70))))
def cdD (J : Nat → Nat → Int) (Rr : Nat → Nat → Nat) (rcC : (Nat → Nat → Int) → Int × (Nat → Nat → Int) → Prop) : ((Nat → Nat → Int) → Int × (Nat → Nat → Int) → Prop) → (Nat → Nat → Int) → Int × (Nat → Nat → Int) → Prop :=
  (fun rc592 (V592 : Nat → Nat → Int) => rdb (V592 0 5) fun z593 => fct (0 ≤ z593 ∧ z593 ≤ 220) <| rdb (V592 0 6) fun z594 => fct (0 ≤ z594 ∧ z594 ≤ 220) <| rdb (V592 0 10) fun z595 => fct (0 ≤ z595 ∧ z595 ≤ 220) <| rdb (V592 0 11) fun z596 => fct (0 ≤ z596 ∧ z596 ≤ 220) <| calR (f_m_here V592 J Rr) fun z597 => fct (-1 ≤ z597 ∧ z597 ≤ 255) <| (if ¬ z597 = 41 then calR (f_m_here V592 J Rr) fun z599 => fct (-1 ≤ z599 ∧ z599 ≤ 255) <| (if z599 = 38 then calR (f_m_here V592 J Rr) fun z601 => fct (-1 ≤ z601 ∧ z601 ≤ 255) <| (if ¬ z601 = 124 then calUM 590295810358705653760 V592 (f_m_lands 0 V592 J Rr) fun V603 => rdb (V603 0 5) fun z604 => fct (0 ≤ z604 ∧ z604 ≤ 220) <| rdb (V603 0 6) fun z605 => fct (0 ≤ z605 ∧ z605 ≤ 220) <| rdb (V603 0 10) fun z606 => fct (0 ≤ z606 ∧ z606 ≤ 220) <| rdb (V603 0 11) fun z607 => fct (0 ≤ z607 ∧ z607 ≤ 220) <| calR (f_m_here V603 J Rr) fun z608 => fct (-1 ≤ z608 ∧ z608 ≤ 255) <| (if ¬ z608 = 38 then calUM 1770887431076116958240 V603 (f_m_jumps 12 V603 J Rr) fun V610 => rcC V610 else calUM 1770887431076116958240 V603 (f_m_jumps 11 V603 J Rr) fun V611 => rcC V611) else calUM 590295810358705653760 V592 (f_m_lands 1 V592 J Rr) fun V612 => rdb (V612 0 5) fun z613 => fct (0 ≤ z613 ∧ z613 ≤ 220) <| rdb (V612 0 6) fun z614 => fct (0 ≤ z614 ∧ z614 ≤ 220) <| rdb (V612 0 10) fun z615 => fct (0 ≤ z615 ∧ z615 ≤ 220) <| rdb (V612 0 11) fun z616 => fct (0 ≤ z616 ∧ z616 ≤ 220) <| calR (f_m_here V612 J Rr) fun z617 => fct (-1 ≤ z617 ∧ z617 ≤ 255) <| (if ¬ z617 = 38 then calUM 1770887431076116958240 V612 (f_m_jumps 12 V612 J Rr) fun V619 => rcC V619 else calUM 1770887431076116958240 V612 (f_m_jumps 11 V612 J Rr) fun V620 => rcC V620)) else calR (f_m_here V592 J Rr) fun z621 => fct (-1 ≤ z621 ∧ z621 ≤ 255) <| (if z621 = 124 then calR (f_m_here V592 J Rr) fun z623 => fct (-1 ≤ z623 ∧ z623 ≤ 255) <| (if ¬ z623 = 124 then calUM 590295810358705653760 V592 (f_m_lands 0 V592 J Rr) fun V625 => rdb (V625 0 5) fun z626 => fct (0 ≤ z626 ∧ z626 ≤ 220) <| rdb (V625 0 6) fun z627 => fct (0 ≤ z627 ∧ z627 ≤ 220) <| rdb (V625 0 10) fun z628 => fct (0 ≤ z628 ∧ z628 ≤ 220) <| rdb (V625 0 11) fun z629 => fct (0 ≤ z629 ∧ z629 ≤ 220) <| calR (f_m_here V625 J Rr) fun z630 => fct (-1 ≤ z630 ∧ z630 ≤ 255) <| (if ¬ z630 = 38 then calUM 1770887431076116958240 V625 (f_m_jumps 12 V625 J Rr) fun V632 => rcC V632 else calUM 1770887431076116958240 V625 (f_m_jumps 11 V625 J Rr) fun V633 => rcC V633) else calUM 590295810358705653760 V592 (f_m_lands 1 V592 J Rr) fun V634 => rdb (V634 0 5) fun z635 => fct (0 ≤ z635 ∧ z635 ≤ 220) <| rdb (V634 0 6) fun z636 => fct (0 ≤ z636 ∧ z636 ≤ 220) <| rdb (V634 0 10) fun z637 => fct (0 ≤ z637 ∧ z637 ≤ 220) <| rdb (V634 0 11) fun z638 => fct (0 ≤ z638 ∧ z638 ≤ 220) <| calR (f_m_here V634 J Rr) fun z639 => fct (-1 ≤ z639 ∧ z639 ≤ 255) <| (if ¬ z639 = 38 then calUM 1770887431076116958240 V634 (f_m_jumps 12 V634 J Rr) fun V641 => rcC V641 else calUM 1770887431076116958240 V634 (f_m_jumps 11 V634 J Rr) fun V642 => rcC V642)) else calVM 128 V592 (f_m_wrongAt 1 z593 V592 J Rr) fun z643 V643 => fct (0 ≤ z643 ∧ z643 ≤ 0) <| rtn (z643, V643))) else calUM 590295810358705653760 V592 (f_m_lands 1 V592 J Rr) fun V644 => rdb (V644 0 5) fun z645 => fct (0 ≤ z645 ∧ z645 ≤ 220) <| rdb (V644 0 6) fun z646 => fct (0 ≤ z646 ∧ z646 ≤ 220) <| rdb (V644 0 10) fun z647 => fct (0 ≤ z647 ∧ z647 ≤ 220) <| rdb (V644 0 11) fun z648 => fct (0 ≤ z648 ∧ z648 ≤ 220) <| rdb (up2 V644 0 11 (z648 - 1)) fun V649 => rdb (V649 0 9) fun z650 => rdb (wr (z650 - 1)) fun z651 => rdb (up2 V649 0 9 z651) fun V652 => rdb (up2 V652 0 5 (z645 + 1)) fun V653 => (if ¬ z648 - 1 = 0 then calUM 590295810358705655296 V653 (f_m_endsPiece V653 J Rr) fun V655 => rc592 V655 else rtn (1, V653))))
def cdC (J : Nat → Nat → Int) (Rr : Nat → Nat → Nat) : ((Nat → Nat → Int) → Int × (Nat → Nat → Int) → Prop) → (Nat → Nat → Int) → Int × (Nat → Nat → Int) → Prop :=
  (fun rc446 (V446 : Nat → Nat → Int) => rdb (V446 0 5) fun z447 => fct (0 ≤ z447 ∧ z447 ≤ 220) <| rdb (V446 0 6) fun z448 => fct (0 ≤ z448 ∧ z448 ≤ 220) <| rdb (V446 0 10) fun z449 => fct (0 ≤ z449 ∧ z449 ≤ 220) <| rdb (V446 0 11) fun z450 => fct (0 ≤ z450 ∧ z450 ≤ 220) <| calR (f_m_here V446 J Rr) fun z451 => fct (-1 ≤ z451 ∧ z451 ≤ 255) <| (if z451 = 33 then calR (f_m_here V446 J Rr) fun z453 => fct (-1 ≤ z453 ∧ z453 ≤ 255) <| (if ¬ z453 = 33 then calVM 1180591620717411306144 V446 (f_m_opens 13 V446 J Rr) fun z455 V455 => fct (0 ≤ z455 ∧ z455 ≤ 1) <| (if ¬ z455 = 0 then rc446 V455 else rtn (0, V455)) else calVM 1180591620717411306144 V446 (f_m_opens 10 V446 J Rr) fun z458 V458 => fct (0 ≤ z458 ∧ z458 ≤ 1) <| (if ¬ z458 = 0 then rc446 V458 else rtn (0, V458))) else calR (f_m_here V446 J Rr) fun z461 => fct (-1 ≤ z461 ∧ z461 ≤ 255) <| (if ¬ z461 = 40 then calVM 1770887431076116959136 V446 (f_m_readsCompared V446 J Rr) fun z463 V463 => fct (0 ≤ z463 ∧ z463 ≤ 1) <| (if ¬ z463 = 0 then lop1 ((V463 0 11).toNat + 1) (cdD J Rr rc446) V463 else rtn (0, V463)) else calR (f_m_here V446 J Rr) fun z656 => fct (-1 ≤ z656 ∧ z656 ≤ 255) <| (if ¬ z656 = 33 then calVM 1180591620717411306144 V446 (f_m_opens 13 V446 J Rr) fun z658 V658 => fct (0 ≤ z658 ∧ z658 ≤ 1) <| (if ¬ z658 = 0 then rc446 V658 else rtn (0, V658)) else calVM 1180591620717411306144 V446 (f_m_opens 10 V446 J Rr) fun z661 V661 => fct (0 ≤ z661 ∧ z661 ≤ 1) <| (if ¬ z661 = 0 then rc446 V661 else rtn (0, V661))))))
def RCz (J : Nat → Nat → Int) (R : Nat → Nat → Nat) (W : Nat → Nat → Int) (r : Int × (Nat → Nat → Int)) : Prop := ∃ n : Nat, lop1 n (cdC J R) W r
def RG (J : Nat → Nat → Int) (R : Nat → Nat → Nat) (W : Nat → Nat → Int) (r : Int × (Nat → Nat → Int)) : Prop := ∃ n m : Nat, lop1 m (cdD J R (lop1 n (cdC J R))) W r
def RE (J : Nat → Nat → Int) (R : Nat → Nat → Nat) (W : Nat → Nat → Int) (r : Int × (Nat → Nat → Int)) : Prop := ∃ (k : Nat) (Y : Nat → Nat → Int), lop1 k (enB J R) W Y ∧ RG J R Y r
/-- a ! is ended -/
def notd (W : Nat → Nat → Int) : Nat → Nat → Int := up2 (clo W 10) 0 9 (W 0 9 - 1)
/-- a jump is noted -/
def jmpd (W : Nat → Nat → Int) (o : Int) : Nat → Nat → Int := up2 (up2 (up2 (up2 (up2 W 6 (W 0 11).toNat (1048576 * o + W 0 10)) 0 11 (W 0 11 + 1)) 5 (W 0 10).toNat (1048576 * o + 0)) 0 10 (W 0 10 + 1)) 0 5 (W 0 5 + 1)
/-- a jump lands -/
def lnd (W : Nat → Nat → Int) (p : Nat) : Nat → Nat → Int := up2 (up2 W 5 p (1048576 * iDiv (W 5 p) 1048576 + W 0 10)) 0 11 (W 0 11 - 1)
theorem q_ends {W X J : Nat → Nat → Int} {R : Nat → Nat → Nat} (h : f_m_endsPiece W J R X) : ∃ n : Nat, lop1 n (enB J R) W X := ⟨_, h⟩
theorem q_lands {x : Int} {W X J : Nat → Nat → Int} {R : Nat → Nat → Nat} (h : f_m_lands x W J R X) : ∃ n : Nat, lop1 n (laB x J R) W X := ⟨_, h⟩
theorem q_jumps {o : Int} {W X J : Nat → Nat → Int} {R : Nat → Nat → Nat} (h : f_m_jumps o W J R X) : X = jmpd W o := by
  unfold f_m_jumps at h
  obtain ⟨z1, e1, -, h⟩ := rdb_g h
  obtain ⟨z2, -, -, h⟩ := rdb_g h
  obtain ⟨z3, e3, -, h⟩ := rdb_g h
  obtain ⟨z4, e4, -, h⟩ := rdb_g h
  obtain ⟨V5, e5, h⟩ := rdb_g h
  obtain ⟨V6, e6, h⟩ := rdb_g h
  obtain ⟨V7, h7, -, h⟩ := h
  obtain ⟨V8, e8, h⟩ := rdb_g h
  have h : X = V8 := h
  have k := q_notes h7
  have e10 : V6 0 10 = W 0 10 := by rw [← e6, up2_n _ _ (Or.inr (by decide)), ← e5, up2_n _ _ (Or.inl (by decide))]
  rw [e10] at k
  rw [h, ← e8, k, ← e6, ← e5, ← e1, ← e3, ← e4]
  rfl
theorem RE.not {W J : Nat → Nat → Int} {R : Nat → Nat → Nat} {r : Int × (Nat → Nat → Int)} (h : RE J R W r) (ht : wtop W = 10) (ho : 0 ≤ W 0 9 ∧ W 0 9 ≤ 6) : RE J R (notd W) r := by
  obtain ⟨k, Y, h, hG⟩ := h
  cases k with
  | zero => exact False.elim h
  | succ k =>
    have h : enB J R (lop1 k (enB J R)) W Y := h
    unfold enB at h
    obtain ⟨z24, -, -, h⟩ := rdb_g h
    obtain ⟨z25, -, -, h⟩ := rdb_g h
    obtain ⟨z26, -, -, h⟩ := rdb_g h
    obtain ⟨z27, e27, -, h⟩ := rdb_g h
    obtain ⟨z28, h28, h⟩ := h
    have h28 := q_wtop h28
    rw [if_neg (fun hh => hh (by omega))] at h
    obtain ⟨V30, h30, -, h⟩ := h
    obtain ⟨V31, e31, h⟩ := rdb_g h
    obtain ⟨z32, e32, h⟩ := rdb_g h
    obtain ⟨z33, e33, h⟩ := rdb_g h
    obtain ⟨V34, e34, h⟩ := rdb_g h
    have h30 := q_notes h30
    have e9 : z32 = W 0 9 := by rw [← e32, ← e31, up2_n _ _ (Or.inr (by decide)), h30, up2_n _ _ (Or.inr (by decide)), up2_n _ _ (Or.inl (by decide))]
    rw [e9, wr_id ⟨by omega, by omega⟩] at e33
    have : V34 = notd W := by rw [← e34, ← e33, ← e31, h30, ← e27]; rfl
    rw [← this]
    exact ⟨k, Y, h, hG⟩
theorem RE.go {W J : Nat → Nat → Int} {R : Nat → Nat → Nat} {r : Int × (Nat → Nat → Int)} (h : RE J R W r) (ht : ¬ wtop W = 10) : RG J R W r := by
  obtain ⟨k, Y, h, hG⟩ := h
  cases k with
  | zero => exact False.elim h
  | succ k =>
    have h : enB J R (lop1 k (enB J R)) W Y := h
    unfold enB at h
    obtain ⟨z24, -, -, h⟩ := rdb_g h
    obtain ⟨z25, -, -, h⟩ := rdb_g h
    obtain ⟨z26, -, -, h⟩ := rdb_g h
    obtain ⟨z27, e27, -, h⟩ := rdb_g h
    obtain ⟨z28, h28, h⟩ := h
    have h28 := q_wtop h28
    rw [if_pos (by omega)] at h
    have h : Y = W := h
    subst h
    exact hG
theorem RCz.cmp {W J : Nat → Nat → Int} {R : Nat → Nat → Nat} {r : Int × (Nat → Nat → Int)} (h : RCz J R W r) (h1 : ¬ sgnZ W = 33) (h2 : ¬ sgnZ W = 40) : ∃ (q : Int) (Y : Nat → Nat → Int), f_m_readsCompared W J R (q, Y) ∧ (0 ≤ q ∧ q ≤ 1) ∧ (q = 0 → r = (0, Y)) ∧ (q = 1 → RG J R Y r) := by
  obtain ⟨n, h⟩ := h
  cases n with
  | zero => exact False.elim h
  | succ n =>
    have h : cdC J R (lop1 n (cdC J R)) W r := h
    unfold cdC at h
    obtain ⟨z447, -, -, h⟩ := rdb_g h
    obtain ⟨z448, -, -, h⟩ := rdb_g h
    obtain ⟨z449, -, -, h⟩ := rdb_g h
    obtain ⟨z450, -, -, h⟩ := rdb_g h
    obtain ⟨c, hc, -, h⟩ := h
    have hc := q_here hc
    rw [if_neg (by omega)] at h
    obtain ⟨c2, hc2, -, h⟩ := h
    have hc2 := q_here hc2
    rw [if_pos (by omega)] at h
    obtain ⟨q, Y, hY, -, hq, h⟩ := h
    refine ⟨q, Y, hY, hq, fun g => ?_, fun g => ?_⟩
    · rw [if_neg (fun hh => hh g)] at h; exact h
    · rw [if_pos (by omega)] at h
      exact ⟨n, _, h⟩
theorem RCz.opn {W J : Nat → Nat → Int} {R : Nat → Nat → Nat} {r : Int × (Nat → Nat → Int)} (h : RCz J R W r) (hs : sgnZ W = 33 ∨ sgnZ W = 40) (ho : 0 ≤ W 0 9 ∧ W 0 9 ≤ 6) : (W 0 9 = 6 ∧ ∃ X : Nat → Nat → Int, r = (0, X) ∧ X 0 7 = -5000 - W 0 5) ∨ (¬ W 0 9 = 6 ∧ (sgnZ W = 33 → RCz J R (opnd W 10) r) ∧ (sgnZ W = 40 → RCz J R (opnd W 13) r)) := by
  obtain ⟨n, h⟩ := h
  cases n with
  | zero => exact False.elim h
  | succ n =>
    have h : cdC J R (lop1 n (cdC J R)) W r := h
    unfold cdC at h
    obtain ⟨z447, -, -, h⟩ := rdb_g h
    obtain ⟨z448, -, -, h⟩ := rdb_g h
    obtain ⟨z449, -, -, h⟩ := rdb_g h
    obtain ⟨z450, -, -, h⟩ := rdb_g h
    obtain ⟨c, hc, -, h⟩ := h
    have hc := q_here hc
    by_cases g : sgnZ W = 33
    · rw [if_pos (by omega)] at h
      obtain ⟨c2, hc2, -, h⟩ := h
      have hc2 := q_here hc2
      rw [if_neg (fun hh => hh (by omega))] at h
      obtain ⟨y, Y, hy, -, -, h⟩ := h
      rcases q_opens hy ho with ⟨k1, k2, k3⟩ | ⟨k1, k2, k3⟩
      · rw [if_neg (fun hq => hq k2)] at h
        have h : r = (0, Y) := h
        exact Or.inl ⟨k1, Y, h, by rw [k3, up2_s]⟩
      · rw [if_pos (by omega), k3] at h
        exact Or.inr ⟨k1, fun _ => ⟨n, h⟩, fun h2 => by omega⟩
    · rw [if_neg (by omega)] at h
      obtain ⟨c2, hc2, -, h⟩ := h
      have hc2 := q_here hc2
      rw [if_neg (fun hh => hh (by omega))] at h
      obtain ⟨c3, hc3, -, h⟩ := h
      have hc3 := q_here hc3
      rw [if_pos (by omega)] at h
      obtain ⟨y, Y, hy, -, -, h⟩ := h
      rcases q_opens hy ho with ⟨k1, k2, k3⟩ | ⟨k1, k2, k3⟩
      · rw [if_neg (fun hq => hq k2)] at h
        have h : r = (0, Y) := h
        exact Or.inl ⟨k1, Y, h, by rw [k3, up2_s]⟩
      · rw [if_pos (by omega), k3] at h
        exact Or.inr ⟨k1, fun h2 => absurd h2 g, fun _ => ⟨n, h⟩⟩
theorem RG.cls {W J : Nat → Nat → Int} {R : Nat → Nat → Nat} {r : Int × (Nat → Nat → Int)} (h : RG J R W r) (hs : sgnZ W = 41) : ∃ Y : Nat → Nat → Int, (∃ n : Nat, lop1 n (laB 1 J R) W Y) ∧ ((0 ≤ Y 0 9 ∧ Y 0 9 ≤ 6) → (Y 0 11 = 1 → r = (1, clsd Y)) ∧ (¬ Y 0 11 = 1 → RE J R (clsd Y) r)) := by
  obtain ⟨n, m, h⟩ := h
  cases m with
  | zero => exact False.elim h
  | succ m =>
    have h : cdD J R (lop1 n (cdC J R)) (lop1 m (cdD J R (lop1 n (cdC J R)))) W r := h
    unfold cdD at h
    obtain ⟨z593, e593, -, h⟩ := rdb_g h
    obtain ⟨z594, -, -, h⟩ := rdb_g h
    obtain ⟨z595, -, -, h⟩ := rdb_g h
    obtain ⟨z596, -, -, h⟩ := rdb_g h
    obtain ⟨c, hc, -, h⟩ := h
    have hc := q_here hc
    rw [if_neg (fun hh => hh (by omega))] at h
    obtain ⟨Y, hY, -, h⟩ := h
    obtain ⟨z645, e645, -, h⟩ := rdb_g h
    obtain ⟨z646, -, -, h⟩ := rdb_g h
    obtain ⟨z647, -, -, h⟩ := rdb_g h
    obtain ⟨z648, e648, -, h⟩ := rdb_g h
    obtain ⟨V649, e649, h⟩ := rdb_g h
    obtain ⟨z650, e650, h⟩ := rdb_g h
    obtain ⟨z651, e651, h⟩ := rdb_g h
    obtain ⟨V652, e652, h⟩ := rdb_g h
    obtain ⟨V653, e653, h⟩ := rdb_g h
    refine ⟨Y, q_lands hY, fun hy9 => ?_⟩
    have e9 : z650 = Y 0 9 := by rw [← e650, ← e649, up2_n _ _ (Or.inr (by decide))]
    rw [e9, wr_id ⟨by omega, by omega⟩] at e651
    have this : V653 = clsd Y := by rw [← e653, ← e652, ← e651, ← e649, ← e648, ← e645]; rfl
    refine ⟨fun g => ?_, fun g => ?_⟩
    · rw [if_neg (fun hh => hh (by omega))] at h
      rw [← this]; exact h
    · rw [if_pos (by omega)] at h
      obtain ⟨Z, hZ, -, h⟩ := h
      obtain ⟨k, hk⟩ := q_ends hZ
      rw [← this]
      exact ⟨k, Z, hk, n, m, h⟩
theorem RG.jmp {o : Int} {W J : Nat → Nat → Int} {R : Nat → Nat → Nat} {r : Int × (Nat → Nat → Int)} (h : RG J R W r) (hs : (sgnZ W = 38 ∧ o = 11) ∨ (sgnZ W = 124 ∧ o = 12)) : ∃ Y : Nat → Nat → Int, (∃ n : Nat, lop1 n (laB (o - 11) J R) W Y) ∧ (sgnZ Y = sgnZ W → RCz J R (jmpd Y o) r) := by
  obtain ⟨n, m, h⟩ := h
  cases m with
  | zero => exact False.elim h
  | succ m =>
    have h : cdD J R (lop1 n (cdC J R)) (lop1 m (cdD J R (lop1 n (cdC J R)))) W r := h
    unfold cdD at h
    obtain ⟨z593, e593, -, h⟩ := rdb_g h
    obtain ⟨z594, -, -, h⟩ := rdb_g h
    obtain ⟨z595, -, -, h⟩ := rdb_g h
    obtain ⟨z596, -, -, h⟩ := rdb_g h
    obtain ⟨c, hc, -, h⟩ := h
    have hc := q_here hc
    rw [if_pos (by omega)] at h
    obtain ⟨c2, hc2, -, h⟩ := h
    have hc2 := q_here hc2
    rcases hs with ⟨hs, rfl⟩ | ⟨hs, rfl⟩
    · rw [if_pos (by omega)] at h
      obtain ⟨c3, hc3, -, h⟩ := h
      have hc3 := q_here hc3
      rw [if_pos (by omega)] at h
      obtain ⟨Y, hY, -, h⟩ := h
      obtain ⟨z604, -, -, h⟩ := rdb_g h
      obtain ⟨z605, -, -, h⟩ := rdb_g h
      obtain ⟨z606, -, -, h⟩ := rdb_g h
      obtain ⟨z607, -, -, h⟩ := rdb_g h
      obtain ⟨c4, hc4, -, h⟩ := h
      have hc4 := q_here hc4
      refine ⟨Y, q_lands hY, fun hy => ?_⟩
      rw [if_neg (fun hh => hh (by omega))] at h
      obtain ⟨Z, hZ, -, h⟩ := h
      rw [q_jumps hZ] at h
      exact ⟨n, h⟩
    · rw [if_neg (by omega)] at h
      obtain ⟨c3, hc3, -, h⟩ := h
      have hc3 := q_here hc3
      rw [if_pos (by omega)] at h
      obtain ⟨c5, hc5, -, h⟩ := h
      have hc5 := q_here hc5
      rw [if_neg (fun hh => hh (by omega))] at h
      obtain ⟨Y, hY, -, h⟩ := h
      obtain ⟨z604, -, -, h⟩ := rdb_g h
      obtain ⟨z605, -, -, h⟩ := rdb_g h
      obtain ⟨z606, -, -, h⟩ := rdb_g h
      obtain ⟨z607, -, -, h⟩ := rdb_g h
      obtain ⟨c4, hc4, -, h⟩ := h
      have hc4 := q_here hc4
      refine ⟨Y, q_lands hY, fun hy => ?_⟩
      rw [if_pos (by omega)] at h
      obtain ⟨Z, hZ, -, h⟩ := h
      rw [q_jumps hZ] at h
      exact ⟨n, h⟩
theorem RG.bad {W J : Nat → Nat → Int} {R : Nat → Nat → Nat} {r : Int × (Nat → Nat → Int)} (h : RG J R W r) (h1 : ¬ sgnZ W = 41) (h2 : ¬ sgnZ W = 38) (h3 : ¬ sgnZ W = 124) (hp : 0 ≤ W 0 5 ∧ W 0 5 ≤ 200) : ∃ X : Nat → Nat → Int, r = (0, X) ∧ X 0 7 = -1000 - W 0 5 := by
  obtain ⟨n, m, h⟩ := h
  cases m with
  | zero => exact False.elim h
  | succ m =>
    have h : cdD J R (lop1 n (cdC J R)) (lop1 m (cdD J R (lop1 n (cdC J R)))) W r := h
    unfold cdD at h
    obtain ⟨z593, e593, -, h⟩ := rdb_g h
    obtain ⟨z594, -, -, h⟩ := rdb_g h
    obtain ⟨z595, -, -, h⟩ := rdb_g h
    obtain ⟨z596, -, -, h⟩ := rdb_g h
    obtain ⟨c, hc, -, h⟩ := h
    have hc := q_here hc
    rw [if_pos (by omega)] at h
    obtain ⟨c2, hc2, -, h⟩ := h
    have hc2 := q_here hc2
    rw [if_neg (by omega)] at h
    obtain ⟨c3, hc3, -, h⟩ := h
    have hc3 := q_here hc3
    rw [if_neg (by omega)] at h
    obtain ⟨q, Y, hY, -, -, h⟩ := h
    obtain ⟨k3, k4⟩ := q_wrong hY (by decide) (by omega)
    have h : r = (q, Y) := h
    refine ⟨Y, by rw [h, k3], ?_⟩
    rw [k4, up2_s, ← e593]
    omega
theorem la_stop {x : Int} {W X J : Nat → Nat → Int} {R : Nat → Nat → Nat} {n : Nat} (hx : x = 0 ∨ x = 1) (h : lop1 n (laB x J R) W X) (h1 : ¬ wtop W = 11) (h2 : x = 1 → ¬ wtop W = 12) : X = W := by
  cases n with
  | zero => exact False.elim h
  | succ n =>
    have h : laB x J R (lop1 n (laB x J R)) W X := h
    unfold laB at h
    obtain ⟨z48, -, -, h⟩ := rdb_g h
    obtain ⟨z49, -, -, h⟩ := rdb_g h
    obtain ⟨z50, -, -, h⟩ := rdb_g h
    obtain ⟨z51, -, -, h⟩ := rdb_g h
    obtain ⟨c, hc, h⟩ := h
    have hc := q_wtop hc
    rw [if_neg (by omega)] at h
    by_cases g : x = 0
    · rw [if_pos g] at h; exact h
    · rw [if_neg g] at h
      obtain ⟨c2, hc2, h⟩ := h
      have hc2 := q_wtop hc2
      rw [if_pos (by omega)] at h
      exact h
theorem la_go {x o p : Int} {W X J : Nat → Nat → Int} {R : Nat → Nat → Nat} {n : Nat} (h : lop1 n (laB x J R) W X) (ho : o = 11 ∨ (x = 1 ∧ o = 12)) (h11 : ¬ W 0 11 = 0) (hp : 0 ≤ p ∧ p < 1048576) (hw : W 6 (W 0 11 - 1).toNat = 1048576 * o + p) : ∃ m : Nat, lop1 m (laB x J R) (lnd W p.toNat) X := by
  have ht : wtop W = o := by unfold wtop; rw [if_neg h11, hw]; exact (iDiv_p (by omega) (by decide)).trans (by omega)
  have hr : iRem (W 6 (W 0 11 - 1).toNat) 1048576 = p := by rw [hw, iRem_p (by omega) (by decide)]; omega
  cases n with
  | zero => exact False.elim h
  | succ n =>
    have h : laB x J R (lop1 n (laB x J R)) W X := h
    unfold laB at h
    obtain ⟨z48, -, -, h⟩ := rdb_g h
    obtain ⟨z49, -, -, h⟩ := rdb_g h
    obtain ⟨z50, e50, -, h⟩ := rdb_g h
    obtain ⟨z51, e51, -, h⟩ := rdb_g h
    obtain ⟨c, hc, h⟩ := h
    have hc := q_wtop hc
    by_cases g : c = 11
    · rw [if_pos g] at h
      obtain ⟨z54, e54, h⟩ := rdb_g h
      obtain ⟨z55, e55, -, h⟩ := rdb_g h
      obtain ⟨z57, e57, h⟩ := rdb_g h
      obtain ⟨z58, e58, h⟩ := rdb_g h
      obtain ⟨V59, e59, h⟩ := rdb_g h
      obtain ⟨V60, e60, h⟩ := rdb_g h
      rw [← e54, ← e51, hr] at e55
      have this : V60 = lnd W p.toNat := by rw [← e60, ← e59, ← e58, ← e57, ← e55, ← e51, ← e50]; rfl
      exact ⟨n, by rw [← this]; exact h⟩
    · rw [if_neg g, if_neg (by omega)] at h
      obtain ⟨c2, hc2, h⟩ := h
      have hc2 := q_wtop hc2
      rw [if_neg (fun hh => hh (by omega))] at h
      obtain ⟨z54, e54, h⟩ := rdb_g h
      obtain ⟨z55, e55, -, h⟩ := rdb_g h
      obtain ⟨z57, e57, h⟩ := rdb_g h
      obtain ⟨z58, e58, h⟩ := rdb_g h
      obtain ⟨V59, e59, h⟩ := rdb_g h
      obtain ⟨V60, e60, h⟩ := rdb_g h
      rw [← e54, ← e51, hr] at e55
      have this : V60 = lnd W p.toNat := by rw [← e60, ← e59, ← e58, ← e57, ← e55, ← e51, ← e50]; rfl
      exact ⟨n, by rw [← this]; exact h⟩
end
section
-- reading: a condition's steps; landings (own work)
def cgS (τ : Int → Int) (s : Nat → Int) (t z : Int) : Prop :=
  ((s z.toNat % 16 = 0 ∨ s z.toNat % 16 = 1) ∧ 0 ≤ τ z ∧ τ z ≤ 30 ∧ τ (z + 1) = τ z + 1) ∨
  (2 ≤ s z.toNat % 16 ∧ s z.toNat % 16 ≤ 6 ∧ 2 ≤ τ z ∧ τ z ≤ 30 ∧ τ (z + 1) = τ z - 1) ∨
  (7 ≤ s z.toNat % 16 ∧ s z.toNat % 16 ≤ 9 ∧ τ z = 2 ∧ τ (z + 1) = -1) ∨
  (s z.toNat % 16 = 10 ∧ τ z = -1 ∧ τ (z + 1) = -1) ∨
  ((s z.toNat % 16 = 11 ∨ s z.toNat % 16 = 12) ∧ τ z = -1 ∧ τ (z + 1) = 0 ∧ z < s z.toNat / 16 ∧ s z.toNat / 16 ≤ t ∧ τ (s z.toNat / 16) = -1)
def CG (s : Nat → Int) (f t : Int) : Prop := 0 ≤ f ∧ f < t ∧ ∃ τ : Int → Int, τ f = 0 ∧ τ t = -1 ∧ ∀ z : Int, f ≤ z → z < t → cgS τ s t z
theorem CG.cg {s u : Nat → Int} {f t : Int} (h : CG s f t) (e : ∀ j : Nat, f ≤ j → (j : Int) < t → u j = s j) : CG u f t := by
  obtain ⟨h1, h2, τ, h4, h5, h6⟩ := h
  refine ⟨h1, h2, τ, h4, h5, fun z a b => ?_⟩
  have := h6 z a b
  unfold cgS at this ⊢
  rw [e z.toNat (by omega) (by omega)]
  exact this
theorem CG.cmp {s : Nat → Int} {f m u k l : Int} (h : SG s f m k) (g : SG s m u l) (ho : 7 ≤ s u.toNat % 16 ∧ s u.toNat % 16 ≤ 9) (hk : k ≤ 30) (hl : l ≤ 29) : CG s f (u + 1) := by
  obtain ⟨h1, h2, h3, τ, h4, h5, h6⟩ := h
  obtain ⟨g1, g2, g3, σ, g4, g5, g6⟩ := g
  obtain ⟨θ, hθ⟩ : ∃ θ : Int → Int, ∀ z : Int, (z ≤ m → θ z = τ z) ∧ (m < z → z ≤ u → θ z = σ z + 1) ∧ (u < z → θ z = -1) := by
    refine ⟨fun z => if z ≤ m then τ z else if z ≤ u then σ z + 1 else -1, fun z => ⟨fun a => if_pos a, fun a b => ?_, fun a => ?_⟩⟩
    · show (if z ≤ m then τ z else if z ≤ u then σ z + 1 else -1) = _
      rw [if_neg (by omega), if_pos b]
    · show (if z ≤ m then τ z else if z ≤ u then σ z + 1 else -1) = _
      rw [if_neg (by omega), if_neg (by omega)]
  refine ⟨h1, by omega, θ, by rw [(hθ f).1 (by omega)]; exact h4, (hθ _).2.2 (by omega), fun z a b => ?_⟩
  unfold cgS
  by_cases a1 : z + 1 ≤ m
  · rw [(hθ z).1 (by omega), (hθ (z + 1)).1 a1]
    rcases h6 z a (by omega) with g | g
    · exact Or.inl ⟨g.1, by omega, by omega, by omega⟩
    · exact Or.inr (Or.inl ⟨g.1, by omega, by omega, by omega, by omega⟩)
  · by_cases a2 : z = m
    · subst a2
      rw [(hθ z).1 (by omega), (hθ (z + 1)).2.1 (by omega) (by omega), h5]
      have := g6 z (by omega) (by omega)
      rw [g4] at this
      rcases this with g | g
      · exact Or.inl ⟨g.1, by omega, by omega, by omega⟩
      · exact absurd g.2.2.1 (by decide)
    · by_cases a3 : z = u
      · subst a3
        rw [(hθ z).2.1 (by omega) (by omega), (hθ (z + 1)).2.2 (by omega), g5]
        exact Or.inr (Or.inr (Or.inl ⟨ho.1, ho.2, by omega, rfl⟩))
      · rw [(hθ z).2.1 (by omega) (by omega), (hθ (z + 1)).2.1 (by omega) (by omega)]
        rcases g6 z (by omega) (by omega) with g | g
        · exact Or.inl ⟨g.1, by omega, by omega, by omega⟩
        · exact Or.inr (Or.inl ⟨g.1, by omega, by omega, by omega, by omega⟩)
theorem CG.not {s : Nat → Int} {f t : Int} (h : CG s f t) (ho : s t.toNat % 16 = 10) : CG s f (t + 1) := by
  obtain ⟨h1, h2, τ, h4, h5, h6⟩ := h
  obtain ⟨θ, hθ⟩ : ∃ θ : Int → Int, ∀ z : Int, (z ≤ t → θ z = τ z) ∧ (t < z → θ z = -1) := by
    refine ⟨fun z => if z ≤ t then τ z else -1, fun z => ⟨fun a => if_pos a, fun a => if_neg (by omega)⟩⟩
  refine ⟨h1, by omega, θ, by rw [(hθ f).1 (by omega)]; exact h4, (hθ _).2 (by omega), fun z a b => ?_⟩
  unfold cgS
  by_cases a1 : z = t
  · subst a1
    rw [(hθ z).1 (by omega), (hθ (z + 1)).2 (by omega), h5]
    exact Or.inr (Or.inr (Or.inr (Or.inl ⟨ho, rfl, rfl⟩)))
  · have := h6 z a (by omega)
    unfold cgS at this
    rw [(hθ z).1 (by omega), (hθ (z + 1)).1 (by omega)]
    rcases this with g | g | g | g | ⟨g1, g2, g3, g4, g5, g6⟩
    · exact Or.inl g
    · exact Or.inr (Or.inl g)
    · exact Or.inr (Or.inr (Or.inl g))
    · exact Or.inr (Or.inr (Or.inr (Or.inl g)))
    · exact Or.inr (Or.inr (Or.inr (Or.inr ⟨g1, g2, g3, g4, by omega, by rw [(hθ _).1 g5]; exact g6⟩)))
theorem CG.join {s : Nat → Int} {f j u o : Int} (h : CG s f j) (g : CG s (j + 1) u) (ho : o = 11 ∨ o = 12) (hs : s j.toNat = o + 16 * u) : CG s f u := by
  obtain ⟨h1, h2, τ, h4, h5, h6⟩ := h
  obtain ⟨g1, g2, σ, g4, g5, g6⟩ := g
  obtain ⟨θ, hθ⟩ : ∃ θ : Int → Int, ∀ z : Int, (z ≤ j → θ z = τ z) ∧ (j < z → θ z = σ z) := by
    refine ⟨fun z => if z ≤ j then τ z else σ z, fun z => ⟨fun a => if_pos a, fun a => if_neg (by omega)⟩⟩
  refine ⟨h1, by omega, θ, by rw [(hθ f).1 (by omega)]; exact h4, by rw [(hθ u).2 (by omega)]; exact g5, fun z a b => ?_⟩
  unfold cgS
  by_cases a1 : z < j
  · have := h6 z a a1
    unfold cgS at this
    rw [(hθ z).1 (by omega), (hθ (z + 1)).1 (by omega)]
    rcases this with k | k | k | k | ⟨k1, k2, k3, k4, k5, k6⟩
    · exact Or.inl k
    · exact Or.inr (Or.inl k)
    · exact Or.inr (Or.inr (Or.inl k))
    · exact Or.inr (Or.inr (Or.inr (Or.inl k)))
    · exact Or.inr (Or.inr (Or.inr (Or.inr ⟨k1, k2, k3, k4, by omega, by rw [(hθ _).1 k5]; exact k6⟩)))
  · by_cases a2 : z = j
    · subst a2
      rw [(hθ z).1 (by omega), (hθ (z + 1)).2 (by omega), h5, g4, hs, show (o + 16 * u) / 16 = u by omega, (hθ u).2 (by omega), g5]
      exact Or.inr (Or.inr (Or.inr (Or.inr ⟨by omega, rfl, rfl, by omega, Int.le_refl _, rfl⟩)))
    · have := g6 z (by omega) b
      unfold cgS at this
      rw [(hθ z).2 (by omega), (hθ (z + 1)).2 (by omega)]
      rcases this with k | k | k | k | ⟨k1, k2, k3, k4, k5, k6⟩
      · exact Or.inl k
      · exact Or.inr (Or.inl k)
      · exact Or.inr (Or.inr (Or.inl k))
      · exact Or.inr (Or.inr (Or.inr (Or.inl k)))
      · exact Or.inr (Or.inr (Or.inr (Or.inr ⟨k1, k2, k3, k4, k5, by rw [(hθ _).2 (by omega)]; exact k6⟩)))
/-- the first side's code grows by a condition -/
def CR (t : Nat) (V U : Nat → Nat → Int) : Prop := (∀ j : Nat, (j : Int) < V t 1 → U (t + 1) j = V (t + 1) j) ∧ CG (U (t + 1)) (V t 1) (U t 1)
theorem CR.cg {t : Nat} {V V1 U U1 : Nat → Nat → Int} (h : CR t V1 U1) (e1 : V1 t 1 = V t 1) (e2 : V1 (t + 1) = V (t + 1)) (e3 : U t 1 = U1 t 1) (e4 : U (t + 1) = U1 (t + 1)) : CR t V U := by
  unfold CR at h ⊢
  rw [e1, e2] at h
  rw [e3, e4]
  exact h
theorem CR.not {t : Nat} {V U : Nat → Nat → Int} (h : CR t V U) : CR t V (up2 (up2 U (t + 1) (U t 1).toNat (10 + 16 * 0)) t 1 (U t 1 + 1)) := by
  obtain ⟨h1, h2⟩ := h
  have l0 := h2.1
  have l1 := h2.2.1
  have e5 : ∀ j : Nat, (j : Int) < U t 1 → (up2 (up2 U (t + 1) (U t 1).toNat (10 + 16 * 0)) t 1 (U t 1 + 1)) (t + 1) j = U (t + 1) j := fun j hj => by
    rw [up2_n _ _ (Or.inl (by omega)), up2_n _ _ (Or.inr (by omega))]
  refine ⟨fun j hj => ?_, ?_⟩
  · rw [e5 j (by omega), h1 j hj]
  · rw [up2_s]
    refine CG.not (h2.cg fun j a b => e5 j b) ?_
    rw [up2_n _ _ (Or.inl (by omega)), up2_s]
    decide
theorem CR.cmp {t : Nat} {V V2 V3 V4 : Nat → Nat → Int} {k l o : Int} (h : GR t V V2 k) (e1 : V3 t 1 = V2 t 1) (e2 : V3 (t + 1) = V2 (t + 1)) (g : GR t V3 V4 l) (ho : 7 ≤ o ∧ o ≤ 9) (hk : k ≤ 30) (hl : l ≤ 29) : CR t V (up2 (up2 V4 (t + 1) (V4 t 1).toNat (o + 16 * 0)) t 1 (V4 t 1 + 1)) := by
  obtain ⟨h1, h2⟩ := h
  obtain ⟨g1, g2⟩ := g
  rw [e1, e2] at g1
  rw [e1] at g2
  have l1 := h2.2.1
  have l0 := h2.1
  have l2 := g2.2.1
  have e5 : ∀ j : Nat, (j : Int) < V4 t 1 → (up2 (up2 V4 (t + 1) (V4 t 1).toNat (o + 16 * 0)) t 1 (V4 t 1 + 1)) (t + 1) j = V4 (t + 1) j := fun j hj => by
    rw [up2_n _ _ (Or.inl (by omega)), up2_n _ _ (Or.inr (by omega))]
  refine ⟨fun j hj => ?_, ?_⟩
  · rw [e5 j (by omega), g1 j (by omega), h1 j hj]
  · rw [up2_s]
    refine CG.cmp (m := V2 t 1) (k := k) (l := l) (h2.cg fun j a b => by rw [e5 j (by omega), g1 j b]) (g2.cg fun j a b => e5 j b) ?_ hk hl
    rw [up2_n _ _ (Or.inl (by omega)), up2_s]
    omega
/-- the code, but for the jumps P that the first side has landed and the reference has not -/
def CP (t : Nat) (V W : Nat → Nat → Int) (P : List (Int × Int)) : Prop := 0 ≤ W 0 10 ∧ V t 1 = W 0 10 ∧ (∀ k : Nat, (k : Int) < W 0 10 → (∀ p ∈ P, ¬ p.2 = (k : Int)) → stw (V (t + 1) k) (W 5 k)) ∧ (∀ p ∈ P, (p.1 = 11 ∨ p.1 = 12) ∧ 0 ≤ p.2 ∧ p.2 < W 0 10 ∧ V (t + 1) p.2.toNat = p.1 + 16 * V t 1 ∧ W 5 p.2.toNat = 1048576 * p.1 + 0) ∧ (P.map Prod.snd).Nodup
theorem CP.ca {t : Nat} {V W : Nat → Nat → Int} (h : CP t V W []) : CA t V W [] := by
  obtain ⟨h1, h2, h3, -, -⟩ := h
  exact ⟨h1, by rw [h2]; simp, fun k hk => h3 k hk (fun p hp => by simp at hp), fun i hi => by simp at hi⟩
theorem CA.cp {t : Nat} {V W : Nat → Nat → Int} (h : CA t V W []) : CP t V W [] := by
  obtain ⟨h1, h2, h3, -⟩ := h
  exact ⟨h1, by rw [h2]; simp, fun k hk _ => h3 k hk, fun p hp => by simp at hp, by simp⟩
theorem CP.to {t : Nat} {V W V2 W2 : Nat → Nat → Int} {P : List (Int × Int)} (h : CP t V W P) (h1 : V2 t 1 = V t 1) (h2 : V2 (t + 1) = V (t + 1)) (h3 : W2 0 10 = W 0 10) (h4 : W2 5 = W 5) : CP t V2 W2 P := by
  unfold CP at h ⊢
  rw [h1, h2, h3, h4]
  exact h
/-- the first side lands one jump more -/
theorem CP.land {t : Nat} {V V2 W : Nat → Nat → Int} {P : List (Int × Int)} {o j : Int} (h : CP t V W P) (ho : o = 11 ∨ o = 12) (hj : 0 ≤ j ∧ j < W 0 10) (hn : ∀ p ∈ P, ¬ p.2 = j) (hv : V (t + 1) j.toNat = o + 16 * 0) (e1 : V2 t 1 = V t 1) (e2 : V2 (t + 1) j.toNat = o + 16 * V t 1) (e3 : ∀ k : Nat, ¬ k = j.toNat → V2 (t + 1) k = V (t + 1) k) : CP t V2 W (P ++ [(o, j)]) := by
  obtain ⟨h1, h2, h3, h4, h5⟩ := h
  refine ⟨h1, by rw [e1]; exact h2, fun k hk hp => ?_, fun p hp => ?_, ?_⟩
  · have g := hp (o, j) (by simp)
    rw [e3 k (fun e => g (by show j = k; omega))]
    exact h3 k hk (fun p hpp => hp p (List.mem_append_left _ hpp))
  · rcases List.mem_append.mp hp with hp | hp
    · have := hn p hp
      obtain ⟨k1, k2, k3, k4, k5⟩ := h4 p hp
      refine ⟨k1, k2, k3, ?_, k5⟩
      rw [e3 _ (by omega), e1]; exact k4
    · simp only [List.mem_cons, List.not_mem_nil, or_false] at hp
      subst hp
      refine ⟨ho, hj.1, hj.2, by rw [e1]; exact e2, ?_⟩
      obtain ⟨op, v, w1, w2⟩ := h3 j.toNat (by omega) (fun p hpp => by have := hn p hpp; omega)
      unfold stp at w2
      rw [w1]
      show 1048576 * op + v = 1048576 * o + 0
      omega
  · rw [List.map_append, List.nodup_append]
    refine ⟨h5, by simp, fun a ha b hb => ?_⟩
    simp only [List.map_cons, List.map_nil, List.mem_cons, List.not_mem_nil, or_false] at hb
    obtain ⟨p, hp, rfl⟩ := List.mem_map.mp ha
    subst hb
    exact hn p hp
/-- the words P wait above place b -/
def WJ (W : Nat → Nat → Int) (b : Int) (P : List (Int × Int)) : Prop := 0 ≤ b ∧ W 0 11 = b + P.length ∧ ∀ i : Nat, i < P.length → W 6 ((W 0 11).toNat - 1 - i) = 1048576 * (P.getD i (0, 0)).1 + (P.getD i (0, 0)).2
/-- the reference lands all that wait -/
theorem landed {t : Nat} {m b : Int} {V J : Nat → Nat → Int} {R : Nat → Nat → Nat} (hm : m = 11 ∨ m = 12) (hV : V t 1 ≤ 220) : ∀ (Q : List (Int × Int)) (n : Nat) (X Y : Nat → Nat → Int), CP t V X Q → WJ X b Q → (∀ p ∈ Q, 11 ≤ p.1 ∧ p.1 ≤ m) → 1 ≤ b → ¬ (11 ≤ iDiv (X 6 (b - 1).toNat) 1048576 ∧ iDiv (X 6 (b - 1).toNat) 1048576 ≤ m) → lop1 n (laB (m - 11) J R) X Y → CP t V Y [] ∧ Y 0 11 = b ∧ Y 6 = X 6 ∧ (∀ k : Nat, k ≠ 11 → Y 0 k = X 0 k) ∧ ∀ i : Nat, i ≠ 0 → i ≠ 5 → Y i = X i := by
  intro Q
  induction Q with
  | nil =>
    intro n X Y hC hW _ hb ht h
    have e11 : X 0 11 = b := by have := hW.2.1; simpa using this
    have et : wtop X = iDiv (X 6 (b - 1).toNat) 1048576 := by unfold wtop; rw [if_neg (by omega), e11]
    have := la_stop (by omega) h (by omega) (by omega)
    subst this
    exact ⟨hC, e11, rfl, fun _ _ => rfl, fun _ _ _ => rfl⟩
  | cons p Q ih =>
    intro n X Y hC hW hp hb ht h
    obtain ⟨c1, c2, c3, c4, c5⟩ := hC
    have hpp := hp p (List.mem_cons_self ..)
    obtain ⟨k1, k2, k3, k4, k5⟩ := c4 p (List.mem_cons_self ..)
    have w2 : X 0 11 = b + (Q.length + 1) := by have := hW.2.1; simpa using this
    have w3 : X 6 ((X 0 11).toNat - 1 - 0) = 1048576 * p.1 + p.2 := hW.2.2 0 (by simp)
    rw [show (X 0 11).toNat - 1 - 0 = (X 0 11 - 1).toNat by omega] at w3
    obtain ⟨n2, h2⟩ := la_go (o := p.1) (p := p.2) h (by omega) (by omega) (by omega) w3
    have nd : ∀ q ∈ Q, ¬ q.2 = p.2 := fun q hq e => by
      rw [List.map_cons, List.nodup_cons] at c5
      exact c5.1 (by rw [← e]; exact List.mem_map_of_mem hq)
    have e5 : ∀ k : Nat, lnd X p.2.toNat 5 k = if k = p.2.toNat then 1048576 * iDiv (X 5 p.2.toNat) 1048576 + X 0 10 else X 5 k := fun k => by
      unfold lnd
      rw [up2_n _ _ (Or.inl (by decide))]
      by_cases e : k = p.2.toNat
      · subst e; rw [up2_s, if_pos rfl]
      · rw [up2_n _ _ (Or.inr e), if_neg e]
    have e0 : ∀ k : Nat, k ≠ 11 → lnd X p.2.toNat 0 k = X 0 k := fun k hk => by unfold lnd; rw [up2_n _ _ (Or.inr hk), up2_n _ _ (Or.inl (by decide))]
    have er : ∀ i : Nat, i ≠ 0 → i ≠ 5 → lnd X p.2.toNat i = X i := fun i i1 i2 => by unfold lnd; rw [up2_c _ _ i1, up2_c _ _ i2]
    have e11 : lnd X p.2.toNat 0 11 = X 0 11 - 1 := by unfold lnd; rw [up2_s]
    have hop : iDiv (X 5 p.2.toNat) 1048576 = p.1 := by rw [k5]; exact (iDiv_p (by omega) (by decide)).trans (by omega)
    have C2 : CP t V (lnd X p.2.toNat) Q := by
      refine ⟨by rw [e0 10 (by decide)]; exact c1, by rw [e0 10 (by decide)]; exact c2, fun k hk hq => ?_, fun q hq => ?_, ?_⟩
      · rw [e0 10 (by decide)] at hk
        rw [e5]
        by_cases e : k = p.2.toNat
        · rw [if_pos e, hop]
          subst e
          rw [k4]
          exact ⟨p.1, X 0 10, rfl, by omega, by omega, by omega, by omega, Or.inl ⟨by omega, by omega⟩⟩
        · rw [if_neg e]
          refine c3 k hk (fun q hq2 => ?_)
          rcases List.mem_cons.mp hq2 with rfl | hq2
          · omega
          · exact hq q hq2
      · obtain ⟨l1, l2, l3, l4, l5⟩ := c4 q (List.mem_cons_of_mem _ hq)
        have := nd q hq
        refine ⟨l1, l2, by rw [e0 10 (by decide)]; exact l3, l4, ?_⟩
        rw [e5, if_neg (by omega)]; exact l5
      · rw [List.map_cons, List.nodup_cons] at c5
        exact c5.2
    have W2 : WJ (lnd X p.2.toNat) b Q := by
      refine ⟨hW.1, by rw [e11]; omega, fun i hi => ?_⟩
      rw [er 6 (by decide) (by decide), e11]
      have := hW.2.2 (i + 1) (by simp; omega)
      rw [show (X 0 11 - 1).toNat - 1 - i = (X 0 11).toNat - 1 - (i + 1) by omega, this]
      rfl
    obtain ⟨r1, r2, r3, r4, r5⟩ := ih n2 _ Y C2 W2 (fun q hq => hp q (List.mem_cons_of_mem _ hq)) hb (by rw [er 6 (by decide) (by decide)]; exact ht) h2
    exact ⟨r1, r2, r3.trans (er 6 (by decide) (by decide)), fun k hk => (r4 k hk).trans (e0 k hk), fun i i1 i2 => (r5 i i1 i2).trans (er i i1 i2)⟩
theorem q_land {t : Nat} {x o : Int} {V J U : Nat → Nat → Int} {R : Nat → Nat → Nat} (h : f_r_land t x V J R U) (hl : 0 ≤ V t 1 ∧ V t 1 ≤ 200) : (x < 0 → U = V) ∧ ((0 ≤ x ∧ x < 200) → V (t + 1) x.toNat = o + 16 * 0 → (o = 11 ∨ o = 12) → U = up2 V (t + 1) x.toNat (o + 16 * V t 1)) := by
  unfold f_r_land at h
  obtain ⟨z1, -, h⟩ := rdb_g h
  refine ⟨fun g => ?_, fun g hv ho => ?_⟩
  · rw [if_pos g] at h; exact h
  · rw [if_neg (by omega), if_neg (by omega)] at h
    obtain ⟨z4, e4, h⟩ := rdb_g h
    obtain ⟨z5, e5, -, h⟩ := rdb_g h
    obtain ⟨z6, e6, h⟩ := rdb_g h
    obtain ⟨z7, e7, h⟩ := rdb_g h
    obtain ⟨V8, e8, h⟩ := rdb_g h
    have h : U = V8 := h
    rw [← e4, ← e6, hv, ← e5, show o + 16 * 0 = o by omega, stp_or (by omega) (by omega)] at e7
    rw [h, ← e8, ← e7]
theorem q_jump {t : Nat} {x o a : Int} {V J U : Nat → Nat → Int} {R : Nat → Nat → Nat} (h : f_r_jump t x o V J R (a, U)) : ∃ V2 : Nat → Nat → Int, f_r_land t x V J R V2 ∧ f_r_put t o 0 V2 J R U ∧ a = U t 1 - 1 := by
  unfold f_r_jump at h
  obtain ⟨z1, -, h⟩ := rdb_g h
  obtain ⟨V2, h2, -, h⟩ := h
  obtain ⟨V3, h3, -, h⟩ := h
  obtain ⟨z4, e4, -, h⟩ := rdb_g h
  simp only [rtn, Prod.mk.injEq] at h
  obtain ⟨h5, h6⟩ := h
  subst h6
  exact ⟨V2, h2, h3, by rw [h5, ← e4]⟩
theorem sgn_eq {W X : Nat → Nat → Int} (h5 : X 0 5 = W 0 5) (h6 : X 0 6 = W 0 6) (h4 : X 4 = W 4) : sgnZ X = sgnZ W := by unfold sgnZ; rw [h5, h6, h4]
end
section
-- reading: conditions, on both sides (own work)
def prtX (c o : Int) (sub : ((Nat → Nat → Int) → (Nat → Nat → Int) → (Nat → Nat → Nat) → Int × (Nat → Nat → Int) → Prop)) (V : Nat → Nat → Int) (J : Nat → Nat → Int) (Rr : Nat → Nat → Nat) : (Int × (Nat → Nat → Int)) → Prop :=
  calVX (fun i k : Nat => (72 ≤ i ∧ i ≤ 72) ∨ (Rr 72 1 ≤ i ∧ i ≤ Rr 72 1 + 4)) V (sub V J Rr) fun z1 V1 => fct (0 ≤ z1 ∧ z1 ≤ 1) <| (if ¬ z1 = 0 then lop3 (202) (fun rc95 (z92 : Int) (z93 : Int) (V95 : Nat → Nat → Int) => (if 200 ≤ z92 then rdb (Rr 72 1) fun t112 => calUX (fun i k : Nat => (t112 ≤ i ∧ i ≤ t112 + 4)) V95 (f_r_land t112 z93 V95 J Rr) fun V113 => rtn (1, V113) else calR (f_r_peek V95 J Rr) fun z114 => (if ¬ z114 = c then rdb (Rr 72 1) fun t116 => calUX (fun i k : Nat => (t116 ≤ i ∧ i ≤ t116 + 4)) V95 (f_r_land t116 z93 V95 J Rr) fun V117 => rtn (1, V117) else rdb (V95 72 2) fun z118 => rdb (wr (z118 + 1)) fun z119 => rdb (up2 V95 72 2 z119) fun V120 => rdb (Rr 72 1) fun t121 => calVX (fun i k : Nat => (t121 ≤ i ∧ i ≤ t121 + 4)) V120 (f_r_jump t121 z93 o V120 J Rr) fun z122 V122 => calVX (fun i k : Nat => (72 ≤ i ∧ i ≤ 72) ∨ (Rr 72 1 ≤ i ∧ i ≤ Rr 72 1 + 4)) V122 (sub V122 J Rr) fun z123 V123 => fct (0 ≤ z123 ∧ z123 ≤ 1) <| (if ¬ z123 = 0 then rc95 (z92 + 1) z122 V123 else rtn (0, V123))))) 0 ((-1)) V1 else rtn (0, V1))
def cmpX (sm : ((Nat → Nat → Int) → (Nat → Nat → Int) → (Nat → Nat → Nat) → Int × (Nat → Nat → Int) → Prop)) (V : Nat → Nat → Int) (J : Nat → Nat → Int) (Rr : Nat → Nat → Nat) : (Int × (Nat → Nat → Int)) → Prop :=
  calVX (fun i k : Nat => (72 ≤ i ∧ i ≤ 72) ∨ (Rr 72 1 ≤ i ∧ i ≤ Rr 72 1 + 4)) V (sm V J Rr) fun z1 V1 => fct (0 ≤ z1 ∧ z1 ≤ 1) <| (if ¬ z1 = 0 then calR (f_r_peek V1 J Rr) fun z4 => calR (f_r_stepOf z4) fun z5 => fct (-1 ≤ z5 ∧ z5 ≤ 9) <| (if 7 ≤ z5 then rdb (V1 72 2) fun z7 => rdb (wr (z7 + 1)) fun z8 => rdb (up2 V1 72 2 z8) fun V9 => calVX (fun i k : Nat => (72 ≤ i ∧ i ≤ 72) ∨ (Rr 72 1 ≤ i ∧ i ≤ Rr 72 1 + 4)) V9 (sm V9 J Rr) fun z10 V10 => fct (0 ≤ z10 ∧ z10 ≤ 1) <| (if ¬ z10 = 0 then rdb (Rr 72 1) fun t13 => calUX (fun i k : Nat => (t13 ≤ i ∧ i ≤ t13 + 4)) V10 (f_r_put t13 z5 0 V10 J Rr) fun V14 => rtn (1, V14) else rtn (0, V10)) else calVX (fun i k : Nat => (72 ≤ i ∧ i ≤ 72)) V1 (f_r_fail 1 V1 J Rr) fun z15 V15 => fct (0 ≤ z15 ∧ z15 ≤ 0) <| rtn (z15, V15)) else rtn (0, V1))
def pieX (d : Int) (ent cmp pie : ((Nat → Nat → Int) → (Nat → Nat → Int) → (Nat → Nat → Nat) → Int × (Nat → Nat → Int) → Prop)) (brk : Int → ((Nat → Nat → Int) → (Nat → Nat → Int) → (Nat → Nat → Nat) → Int × (Nat → Nat → Int) → Prop)) (V : Nat → Nat → Int) (J : Nat → Nat → Int) (Rr : Nat → Nat → Nat) : (Int × (Nat → Nat → Int)) → Prop :=
  calR (f_r_peek V J Rr) fun z1 => (if ¬ z1 = 40 then calR (f_r_peek V J Rr) fun z3 => (if z3 = 33 then calVX (fun i k : Nat => (72 ≤ i ∧ i ≤ 72)) V (ent V J Rr) fun z5 V5 => fct (0 ≤ z5 ∧ z5 ≤ 1) <| (if z5 = 0 then rtn (0, V5) else calVX (fun i k : Nat => (72 ≤ i ∧ i ≤ 72) ∨ (Rr 72 1 ≤ i ∧ i ≤ Rr 72 1 + 4)) V5 (pie V5 J Rr) fun z8 V8 => fct (0 ≤ z8 ∧ z8 ≤ 1) <| (if ¬ z8 = 0 then rdb (up2 V8 72 4 d) fun V11 => rdb (Rr 72 1) fun t12 => calUX (fun i k : Nat => (t12 ≤ i ∧ i ≤ t12 + 4)) V11 (f_r_put t12 10 0 V11 J Rr) fun V13 => rtn (1, V13) else rtn (0, V8))) else calVX (fun i k : Nat => (72 ≤ i ∧ i ≤ 72) ∨ (Rr 72 1 ≤ i ∧ i ≤ Rr 72 1 + 4)) V (cmp V J Rr) fun z14 V14 => fct (0 ≤ z14 ∧ z14 ≤ 1) <| rtn (z14, V14)) else calVX (fun i k : Nat => (72 ≤ i ∧ i ≤ 72) ∨ (Rr 72 1 ≤ i ∧ i ≤ Rr 72 1 + 4)) V (brk 41 V J Rr) fun z15 V15 => fct (0 ≤ z15 ∧ z15 ≤ 1) <| rtn (z15, V15))
theorem fx_cond1 : f_r_condition1 = prtX 124 12 f_r_conditionPart1 := rfl
theorem fx_part1 : f_r_conditionPart1 = prtX 38 11 f_r_piece1 := rfl
theorem fx_cmp1 : f_r_comparison1 = cmpX f_r_sum1 := rfl
theorem fx_pie1 : f_r_piece1 = pieX 1 f_r_enter1 f_r_comparison1 f_r_piece2 f_r_bracket1 := rfl
theorem fx_cond2 : f_r_condition2 = prtX 124 12 f_r_conditionPart2 := rfl
theorem fx_part2 : f_r_conditionPart2 = prtX 38 11 f_r_piece2 := rfl
theorem fx_cmp2 : f_r_comparison2 = cmpX f_r_sum2 := rfl
theorem fx_pie2 : f_r_piece2 = pieX 2 f_r_enter2 f_r_comparison2 f_r_piece3 f_r_bracket2 := rfl
theorem fx_cond3 : f_r_condition3 = prtX 124 12 f_r_conditionPart3 := rfl
theorem fx_part3 : f_r_conditionPart3 = prtX 38 11 f_r_piece3 := rfl
theorem fx_cmp3 : f_r_comparison3 = cmpX f_r_sum3 := rfl
theorem fx_pie3 : f_r_piece3 = pieX 3 f_r_enter3 f_r_comparison3 f_r_piece4 f_r_bracket3 := rfl
theorem fx_cond4 : f_r_condition4 = prtX 124 12 f_r_conditionPart4 := rfl
theorem fx_part4 : f_r_conditionPart4 = prtX 38 11 f_r_piece4 := rfl
theorem fx_cmp4 : f_r_comparison4 = cmpX f_r_sum4 := rfl
theorem fx_pie4 : f_r_piece4 = pieX 4 f_r_enter4 f_r_comparison4 f_r_piece5 f_r_bracket4 := rfl
theorem fx_cond5 : f_r_condition5 = prtX 124 12 f_r_conditionPart5 := rfl
theorem fx_part5 : f_r_conditionPart5 = prtX 38 11 f_r_piece5 := rfl
theorem fx_cmp5 : f_r_comparison5 = cmpX f_r_sum5 := rfl
theorem fx_pie5 : f_r_piece5 = pieX 5 f_r_enter5 f_r_comparison5 f_r_piece6 f_r_bracket5 := rfl
theorem fx_cond6 : f_r_condition6 = prtX 124 12 f_r_conditionPart6 := rfl
theorem fx_part6 : f_r_conditionPart6 = prtX 38 11 f_r_piece6 := rfl
theorem fx_cmp6 : f_r_comparison6 = cmpX f_r_sum6 := rfl
/-- a sum, read to its end on both sides -/
theorem SUMS.all {d : Int} {sm : ((Nat → Nat → Int) → (Nat → Nat → Int) → (Nat → Nat → Nat) → Int × (Nat → Nat → Int) → Prop)} (hF : SUMS d sm) (hd : 0 ≤ d ∧ d ≤ 6) {t : Nat} {s a q : Int} {V W J Jm U Y : Nat → Nat → Int} {R Rm : Nat → Nat → Nat} (ht : isTx t) (hR : R 72 1 = t) (hS : RS1 t d s V W []) (h0 : 0 ≤ W 0 11) (hb : bot W (W 0 11)) (hx : sm V J R (a, U)) (hm : f_m_readsSum W Jm Rm (q, Y)) :
    (a = 1 ∧ q = 1 ∧ RS1 t d s U Y [] ∧ Y 0 11 = W 0 11 ∧ KM (W 0 11) W Y ∧ KX t V U ∧ W 0 5 < Y 0 5 ∧ (¬ sgnZ Y = 42 ∧ ¬ sgnZ Y = 47 ∧ ¬ sgnZ Y = 37 ∧ ¬ sgnZ Y = 43 ∧ ¬ sgnZ Y = 45) ∧ GR t V U (15 - 2 * d)) ∨ (a = 0 ∧ q = 0 ∧ FLT (U 72 5) (Y 0 7)) := by
  have hRA := q_readsSum hm
  rcases hF t s (W 0 11) (W 0 11) a V W J Jm U R Rm (q, Y) ht hR hS ⟨h0, by simp, fun i hi => by simp at hi⟩ hb ⟨h0, Int.le_refl _⟩ hx hRA with ⟨f1, X, O, f2, f3, f4, f5, f6, f7, f8, f9, f10⟩ | ⟨hbad, Z, z1, z2⟩
  · obtain ⟨sg, hsg, hcase⟩ := RB.sg f3 h0 (by have := f4.2.2.2.1; omega) (by have := f4.1.2.2.1; omega)
    have hsg := q_sumSign hsg
    have esg : sg = -1 := by omega
    have noopen : ∀ j : Nat, W 0 11 ≤ (j : Int) → (j : Int) < X 0 11 → ¬ iDiv (X 6 j) 1048576 = 14 := fun j j1 j2 j3 => by
      obtain ⟨w1, w2, w3⟩ := f5
      obtain ⟨i, hi, hj⟩ : ∃ i : Nat, i < O.length ∧ j = (X 0 11).toNat - 1 - i := ⟨(X 0 11).toNat - 1 - j, by omega, by omega⟩
      have hm := f2 (O.getD i 0) (by rw [List.getD_eq_getElem?_getD, List.getElem?_eq_getElem hi]; exact List.getElem_mem hi)
      rw [hj, w3 i hi, iDiv_p (by omega) (by decide)] at j3
      omega
    rcases hcase with ⟨c1, -⟩ | ⟨c1, -⟩ | ⟨c1, ⟨d1, ⟨j, j1, j2, j3⟩, -⟩ | ⟨d1, X2, ⟨n2, hX2⟩, d3⟩ | ⟨d1, ⟨j, j1, j2, j3⟩, -⟩⟩
    · omega
    · omega
    · exact absurd j3 (noopen j j1 j2)
    · obtain ⟨t1, t2, t3, t4, t5, t6, t7⟩ := closed (z4 := W 0 11) (P := O) (A := []) (Or.inr rfl) hX2 f4 (by rw [List.append_nil]; exact f5) (fun o ho => by have := f2 o ho; unfold popc; omega) f2 (fun Y hY hWY => bot_np (W := X) (Or.inr rfl) (hb.km f6 (Int.le_refl _) h0) hY hWY)
      simp only [Prod.mk.injEq] at d3
      obtain ⟨rfl, rfl⟩ := d3
      have es : sgnZ Y = sgnZ X := sgn_eq t5 t6 ((t3 0).2.1 4 (by decide) (by decide) (by decide))
      exact Or.inl ⟨f1, rfl, t1, by have := t2.2.1; simpa using this, f6.tr (t3 _) (Int.le_refl _), f7, by omega, by rw [es]; exact f9, f10⟩
    · exact absurd j3 (noopen j j1 j2)
  · simp only [Prod.mk.injEq] at z1
    obtain ⟨rfl, rfl⟩ := z1
    exact Or.inr ⟨hbad, rfl, z2⟩
theorem nted_v (W : Nat → Nat → Int) (w : Int) : nted W w 0 10 = W 0 10 + 1 ∧ (∀ k : Nat, k ≠ 10 → nted W w 0 k = W 0 k) ∧ (∀ i : Nat, i ≠ 0 → i ≠ 5 → nted W w i = W i) ∧ ∀ k : Nat, nted W w 5 k = if k = (W 0 10).toNat then w else W 5 k := by
  unfold nted
  refine ⟨up2_s _ _ _ _, fun k hk => by rw [up2_n _ _ (Or.inr hk), up2_n _ _ (Or.inl (by decide))], fun i i1 i2 => by rw [up2_c _ _ i1, up2_c _ _ i2], fun k => ?_⟩
  rw [up2_n _ _ (Or.inl (by decide))]
  by_cases e : k = (W 0 10).toNat
  · subst e; rw [up2_s, if_pos rfl]
  · rw [up2_n _ _ (Or.inr e), if_neg e]
/-- both put the same operator -/
theorem RS1.both {t : Nat} {d s k : Int} {V X : Nat → Nat → Int} (h : RS1 t d (s + 1) V X []) (ht : isTx t) (hs : 0 ≤ s) (hk : 2 ≤ k ∧ k ≤ 12) : RS1 t d s (up2 (up2 V (t + 1) (V t 1).toNat (k + 16 * 0)) t 1 (V t 1 + 1)) (nted X (1048576 * k + 0)) [] := by
  have tn := tx_ne ht
  obtain ⟨s1, s2, s3, s4, s5, s6⟩ := h
  obtain ⟨n1, n2, n3, n4⟩ := nted_v X (1048576 * k + 0)
  refine ⟨s1.to ?_ ?_ (n2 6 (by decide)) (by rw [n2 5 (by decide)]; have := s1.2.2.1; omega) ?_ ?_ (n3 4 (by decide) (by decide)), ?_, ?_, by rw [n2 9 (by decide)]; exact s4, hs, ?_⟩
  · rw [up2_n _ _ (Or.inl tn.1.1.symm), up2_n _ _ (Or.inl tn.1.2.symm), n2 5 (by decide)]; exact s1.1
  · rw [up2_n _ _ (Or.inl tn.1.1.symm), up2_n _ _ (Or.inl tn.1.2.symm)]
  · rw [up2_c _ _ tn.2.1.symm, up2_c _ _ tn.2.2.2.1.symm]
  · rw [up2_c _ _ tn.2.2.1.symm, up2_c _ _ tn.2.2.2.2.symm]
  · exact s2.both (by rw [show k + 16 * 0 = k by omega]; exact stw_op hk) n1 n4
  · rw [up2_n _ _ (Or.inl tn.1.1.symm), up2_n _ _ (Or.inl tn.1.2.symm)]; exact s3
  · rw [up2_s, n2 5 (by decide)]; omega
theorem KM.nt {n : Int} {X : Nat → Nat → Int} {w : Int} : KM n X (nted X w) := by
  obtain ⟨n1, n2, n3, n4⟩ := nted_v X w
  exact ⟨fun j _ => by rw [n3 6 (by decide) (by decide)], fun i a b c => n3 i a b, n2 6 (by decide), n2 12 (by decide), n2 4 (by decide)⟩
/-- a sign is passed on both sides -/
theorem RS1.pass {t : Nat} {d s : Int} {V X : Nat → Nat → Int} (h : RS1 t d s V X []) (ht : isTx t) (hlt : X 0 5 < X 0 6) : RS1 t d (s + 1) (up2 V 72 2 (X 0 5 + 1)) (up2 X 0 5 (X 0 5 + 1)) [] :=
  h.adv ht hlt rfl (up2_s _ _ _ _) (up2_n _ _ (Or.inr (by decide))) (up2_n _ _ (Or.inr (by decide))) (up2_n _ _ (Or.inr (by decide))) (up2_c _ _ (by decide)) (up2_c _ _ (by decide))
theorem KM.pass {n : Int} {X : Nat → Nat → Int} {p : Int} : KM n X (up2 X 0 5 p) := ⟨fun j _ => up2_n _ _ (Or.inl (by decide)), fun i a b c => up2_c _ _ a, up2_n _ _ (Or.inr (by decide)), up2_n _ _ (Or.inr (by decide)), up2_n _ _ (Or.inr (by decide))⟩
/-- the reference compares -/
theorem q_compared {q : Int} {W J Y : Nat → Nat → Int} {R : Nat → Nat → Nat} (h : f_m_readsCompared W J R (q, Y)) : ∃ (q1 : Int) (Y1 : Nat → Nat → Int), f_m_readsSum W J R (q1, Y1) ∧ (q1 = 0 → q = 0 ∧ Y = Y1) ∧ (q1 = 1 →
    (∃ k : Int, ((sgnZ Y1 = 60 ∧ k = 7) ∨ (sgnZ Y1 = 62 ∧ k = 8) ∨ (sgnZ Y1 = 61 ∧ k = 9)) ∧ ∃ (q2 : Int) (Y2 : Nat → Nat → Int), f_m_readsSum (up2 Y1 0 5 (Y1 0 5 + 1)) J R (q2, Y2) ∧ (q2 = 0 → q = 0 ∧ Y = Y2) ∧ (q2 = 1 → q = 1 ∧ ∃ n : Nat, lop1 n (enB J R) (nted Y2 (1048576 * k + 0)) Y)) ∨
    (¬ sgnZ Y1 = 60 ∧ ¬ sgnZ Y1 = 62 ∧ ¬ sgnZ Y1 = 61 ∧ (0 ≤ Y1 0 5 ∧ Y1 0 5 ≤ 200 → q = 0 ∧ Y 0 7 = -1000 - Y1 0 5))) := by
  unfold f_m_readsCompared at h
  obtain ⟨z1, -, -, h⟩ := rdb_g h
  obtain ⟨z2, -, -, h⟩ := rdb_g h
  obtain ⟨z3, -, -, h⟩ := rdb_g h
  obtain ⟨z4, -, -, h⟩ := rdb_g h
  obtain ⟨q1, Y1, hY1, -, hq1, h⟩ := h
  refine ⟨q1, Y1, hY1, fun g => ?_, fun g => ?_⟩
  · rw [if_neg (fun hh => hh g)] at h
    simp only [rtn, Prod.mk.injEq] at h
    exact h
  · rw [if_pos (by omega)] at h
    obtain ⟨z9, e9, -, h⟩ := rdb_g h
    obtain ⟨z10, -, -, h⟩ := rdb_g h
    obtain ⟨z11, -, -, h⟩ := rdb_g h
    obtain ⟨z12, -, -, h⟩ := rdb_g h
    obtain ⟨c, hc, -, h⟩ := h
    have hc := q_here hc
    by_cases g60 : c = 60
    · rw [if_neg (fun hh => hh g60)] at h
      obtain ⟨V20, e20, h⟩ := rdb_g h
      obtain ⟨q2, Y2, hY2, -, hq2, h⟩ := h
      have e21 : V20 = up2 Y1 0 5 (Y1 0 5 + 1) := by rw [← e20, ← e9]
      rw [e21] at hY2
      refine Or.inl ⟨7, Or.inl ⟨by omega, rfl⟩, q2, Y2, hY2, fun g2 => ?_, fun g2 => ?_⟩
      · rw [if_neg (fun hh => hh g2)] at h
        simp only [rtn, Prod.mk.injEq] at h
        exact h
      · rw [if_pos (by omega)] at h
        obtain ⟨y1, -, -, h⟩ := rdb_g h
        obtain ⟨y2, -, -, h⟩ := rdb_g h
        obtain ⟨y3, -, -, h⟩ := rdb_g h
        obtain ⟨y4, -, -, h⟩ := rdb_g h
        obtain ⟨Z, hZ, -, h⟩ := h
        obtain ⟨Z2, hZ2, -, h⟩ := h
        simp only [rtn, Prod.mk.injEq] at h
        obtain ⟨n, hn⟩ := q_ends hZ2
        rw [q_notes hZ] at hn
        exact ⟨h.1, n, by rw [h.2]; exact hn⟩
    · rw [if_pos g60] at h
      obtain ⟨c2, hc2, -, h⟩ := h
      have hc2 := q_here hc2
      by_cases g62 : c2 = 62
      · rw [if_neg (fun hh => hh g62)] at h
        obtain ⟨V20, e20, h⟩ := rdb_g h
        obtain ⟨q2, Y2, hY2, -, hq2, h⟩ := h
        have e21 : V20 = up2 Y1 0 5 (Y1 0 5 + 1) := by rw [← e20, ← e9]
        rw [e21] at hY2
        refine Or.inl ⟨8, Or.inr (Or.inl ⟨by omega, rfl⟩), q2, Y2, hY2, fun g2 => ?_, fun g2 => ?_⟩
        · rw [if_neg (fun hh => hh g2)] at h
          simp only [rtn, Prod.mk.injEq] at h
          exact h
        · rw [if_pos (by omega)] at h
          obtain ⟨y1, -, -, h⟩ := rdb_g h
          obtain ⟨y2, -, -, h⟩ := rdb_g h
          obtain ⟨y3, -, -, h⟩ := rdb_g h
          obtain ⟨y4, -, -, h⟩ := rdb_g h
          obtain ⟨Z, hZ, -, h⟩ := h
          obtain ⟨Z2, hZ2, -, h⟩ := h
          simp only [rtn, Prod.mk.injEq] at h
          obtain ⟨n, hn⟩ := q_ends hZ2
          rw [q_notes hZ] at hn
          exact ⟨h.1, n, by rw [h.2]; exact hn⟩
      · rw [if_pos g62] at h
        obtain ⟨c3, hc3, -, h⟩ := h
        have hc3 := q_here hc3
        by_cases g61 : c3 = 61
        · rw [if_neg (fun hh => hh g61)] at h
          obtain ⟨V20, e20, h⟩ := rdb_g h
          obtain ⟨q2, Y2, hY2, -, hq2, h⟩ := h
          have e21 : V20 = up2 Y1 0 5 (Y1 0 5 + 1) := by rw [← e20, ← e9]
          rw [e21] at hY2
          refine Or.inl ⟨9, Or.inr (Or.inr ⟨by omega, rfl⟩), q2, Y2, hY2, fun g2 => ?_, fun g2 => ?_⟩
          · rw [if_neg (fun hh => hh g2)] at h
            simp only [rtn, Prod.mk.injEq] at h
            exact h
          · rw [if_pos (by omega)] at h
            obtain ⟨y1, -, -, h⟩ := rdb_g h
            obtain ⟨y2, -, -, h⟩ := rdb_g h
            obtain ⟨y3, -, -, h⟩ := rdb_g h
            obtain ⟨y4, -, -, h⟩ := rdb_g h
            obtain ⟨Z, hZ, -, h⟩ := h
            obtain ⟨Z2, hZ2, -, h⟩ := h
            simp only [rtn, Prod.mk.injEq] at h
            obtain ⟨n, hn⟩ := q_ends hZ2
            rw [q_notes hZ] at hn
            exact ⟨h.1, n, by rw [h.2]; exact hn⟩
        · rw [if_pos g61] at h
          obtain ⟨y, Z, hZ, -, -, h⟩ := h
          simp only [rtn, Prod.mk.injEq] at h
          refine Or.inr ⟨by omega, by omega, by omega, fun hp => ?_⟩
          obtain ⟨k3, k4⟩ := q_wrong hZ (by decide) (by omega)
          refine ⟨h.1.trans k3, ?_⟩
          rw [h.2, k4, up2_s, ← e9]
          omega
def TOP (m : Int) (W : Nat → Nat → Int) : Prop := 1 ≤ W 0 11 ∧ m ≤ wtop W ∧ wtop W ≤ 13
theorem TOP.bot {m : Int} {W : Nat → Nat → Int} (h : TOP m W) (hm : 10 ≤ m) : bot W (W 0 11) := by
  obtain ⟨h1, h2, h3⟩ := h
  unfold wtop at h2 h3
  rw [if_neg (by omega)] at h2 h3
  exact Or.inr (by omega)
/-- a comparison, on both sides -/
theorem CMPS.of {d : Int} {sm : ((Nat → Nat → Int) → (Nat → Nat → Int) → (Nat → Nat → Nat) → Int × (Nat → Nat → Int) → Prop)} (hF : SUMS d sm) (hd : 1 ≤ d ∧ d ≤ 6) {t : Nat} {s a q : Int} {V W J Jm U Y : Nat → Nat → Int} {R Rm : Nat → Nat → Nat} (ht : isTx t) (hR : R 72 1 = t) (hS : RS1 t d s V W []) (hT : TOP 10 W) (hx : cmpX sm V J R (a, U)) (hm : f_m_readsCompared W Jm Rm (q, Y)) :
    (a = 1 ∧ q = 1 ∧ ∃ X : Nat → Nat → Int, (∃ n : Nat, lop1 n (enB Jm Rm) X Y) ∧ RS1 t d s U X [] ∧ X 0 11 = W 0 11 ∧ KM (W 0 11) W X ∧ KX t V U ∧ W 0 5 < X 0 5 ∧ CR t V U) ∨ (a = 0 ∧ q = 0 ∧ FLT (U 72 5) (Y 0 7)) := by
  have tn := tx_ne ht
  have hs := hS.2.2.2.2.1
  obtain ⟨q1, Y1, hY1, m1, m2⟩ := q_compared hm
  unfold cmpX at hx
  obtain ⟨z1, V1, h1, -, z1r, hx⟩ := hx
  rcases hF.all ⟨by omega, hd.2⟩ ht hR hS (by have := hT.1; omega) (hT.bot (by decide)) h1 hY1 with ⟨f1, f2, f3, f4, f5, f6, f7, f8, f9⟩ | ⟨f1, f2, f3⟩
  · rw [if_pos (by omega)] at hx
    obtain ⟨c, hc, hx⟩ := hx
    have hc := q_peek f3.1 hc
    subst hc
    obtain ⟨k, hk, -, hx⟩ := hx
    have hk := q_stepOf hk
    have fp := f3.1.2.2.1
    by_cases g : 7 ≤ k
    · rw [if_pos g] at hx
      have hlt := sgn_lt (W := Y1) (by omega)
      obtain ⟨z7, e7, hx⟩ := rdb_g hx
      obtain ⟨z8, e8, hx⟩ := rdb_g hx
      obtain ⟨V9, e9, hx⟩ := rdb_g hx
      obtain ⟨z10, V10, h10, -, z10r, hx⟩ := hx
      rw [← e7, f3.1.1, wr_id ⟨by omega, by omega⟩] at e8
      have hV9 : V9 = up2 V1 72 2 (Y1 0 5 + 1) := by rw [← e9, ← e8]
      rcases m2 f2 with ⟨k2, hk2, q2, Y2, hY2, m3, m4⟩ | ⟨b1, b2, b3, -⟩
      · have ek : k2 = k := by omega
        subst ek
        have S2 := f3.pass ht hlt
        rw [← hV9] at S2
        have e11 : up2 Y1 0 5 (Y1 0 5 + 1) 0 11 = W 0 11 := (up2_n _ _ (Or.inr (by decide))).trans f4
        have K2 : KM (W 0 11) W (up2 Y1 0 5 (Y1 0 5 + 1)) := f5.tr KM.pass (Int.le_refl _)
        rcases hF.all ⟨by omega, hd.2⟩ ht hR S2 (by rw [e11]; have := hT.1; omega) (by rw [e11]; exact (hT.bot (by decide)).km K2 (Int.le_refl _) (by have := hT.1; omega)) h10 hY2 with ⟨g1, g2, g3, g4, g5, g6, g7, g8, g9⟩ | ⟨g1, g2, g3⟩
        · rw [if_pos (by omega)] at hx
          obtain ⟨t0, et0, hx⟩ := rdb_g hx
          rw [hR] at et0
          subst et0
          obtain ⟨V14, h14, -, hx⟩ := hx
          simp only [rtn, Prod.mk.injEq] at hx
          have hp14 := q_put h14 (by omega) (by decide) (by have := g3.2.1.1; have := g3.2.1.2.1; have := g3.2.2.2.2.2; have := g3.1.2.2.1; simp only [List.length_nil] at *; omega)
          have S3 := g3.both (k := k2) ht hs (by omega)
          rw [← hp14] at S3
          obtain ⟨m5, n, m6⟩ := m4 g2
          obtain ⟨v1, v2, v3, v4⟩ := nted_v Y2 (1048576 * k2 + 0)
          rw [up2_s] at g7
          refine Or.inl ⟨hx.1, m5, nted Y2 (1048576 * k2 + 0), ⟨n, m6⟩, by rw [hx.2]; exact S3, by rw [v2 11 (by decide), g4, e11], (K2.tr (by rw [e11] at g5; exact g5) (Int.le_refl _)).tr KM.nt (Int.le_refl _), ?_, by rw [v2 5 (by decide)]; omega, ?_⟩
          · rw [hx.2, hp14]
            exact ((f6.tr (by rw [hV9]; exact KX.adv ht)).tr g6).tr (KX.put ht)
          · rw [hx.2, hp14]
            exact CR.cmp f9 (by rw [hV9, up2_n _ _ (Or.inl tn.1.1)]) (by rw [hV9, up2_c _ _ tn.1.2]) g9 (by omega) (by omega) (by omega)
        · rw [if_neg (fun hh => hh g1)] at hx
          simp only [rtn, Prod.mk.injEq] at hx
          obtain ⟨m5, m6⟩ := m3 g2
          exact Or.inr ⟨hx.1, m5, by rw [hx.2, m6]; exact g3⟩
      · omega
    · rw [if_neg g] at hx
      obtain ⟨y, Z, hZ, -, -, hx⟩ := hx
      simp only [rtn, Prod.mk.injEq] at hx
      obtain ⟨k3, k4⟩ := q_fail hZ (by decide) (by rw [f3.1.1]; omega)
      rcases m2 f2 with ⟨k2, hk2, -⟩ | ⟨b1, b2, b3, b4⟩
      · omega
      · obtain ⟨b5, b6⟩ := b4 ⟨by omega, by omega⟩
        exact Or.inr ⟨hx.1.trans k3, b5, by rw [hx.2, k4, up2_s, f3.1.1, b6]; exact ⟨by omega, by omega⟩⟩
  · rw [if_neg (fun hh => hh f1)] at hx
    simp only [rtn, Prod.mk.injEq] at hx
    obtain ⟨m5, m6⟩ := m1 f2
    exact Or.inr ⟨hx.1, m5, by rw [hx.2, m6]; exact f3⟩
end
section
-- reading: pieces, parts, conditions (own work)
/-- the state behind a part: the first side has landed P, the reference has not -/
def RSP (t : Nat) (d s : Int) (V W : Nat → Nat → Int) (P : List (Int × Int)) : Prop := PP V W ∧ CP t V W P ∧ V 72 4 = d ∧ W 0 9 = d ∧ 0 ≤ s ∧ V t 1 + s ≤ W 0 5
theorem RS1.sp {t : Nat} {d s : Int} {V W : Nat → Nat → Int} (h : RS1 t d s V W []) : RSP t d s V W [] := ⟨h.1, h.2.1.cp, h.2.2.1, h.2.2.2.1, h.2.2.2.2.1, h.2.2.2.2.2⟩
def PIES (d : Int) (pie : ((Nat → Nat → Int) → (Nat → Nat → Int) → (Nat → Nat → Nat) → Int × (Nat → Nat → Int) → Prop)) : Prop := ∀ (t : Nat) (s a : Int) (V W J Jm U : Nat → Nat → Int) (R Rm : Nat → Nat → Nat) (r : Int × (Nat → Nat → Int)), isTx t → R 72 1 = t → RS1 t d s V W [] → TOP 10 W → pie V J R (a, U) → RCz Jm Rm W r →
  (a = 1 ∧ ∃ X : Nat → Nat → Int, RE Jm Rm X r ∧ RS1 t d s U X [] ∧ X 0 11 = W 0 11 ∧ KM (W 0 11) W X ∧ KX t V U ∧ W 0 5 < X 0 5 ∧ CR t V U) ∨ BAD a U r
def LV (m d : Int) (sub : ((Nat → Nat → Int) → (Nat → Nat → Int) → (Nat → Nat → Nat) → Int × (Nat → Nat → Int) → Prop)) : Prop := ∀ (t : Nat) (s a : Int) (V W J Jm U : Nat → Nat → Int) (R Rm : Nat → Nat → Nat) (r : Int × (Nat → Nat → Int)), isTx t → R 72 1 = t → RS1 t d s V W [] → TOP m W → sub V J R (a, U) → RCz Jm Rm W r →
  (a = 1 ∧ ∃ (X : Nat → Nat → Int) (P : List (Int × Int)), RG Jm Rm X r ∧ RSP t d s U X P ∧ WJ X (W 0 11) P ∧ (∀ p ∈ P, 11 ≤ p.1 ∧ p.1 < m ∧ V t 1 ≤ p.2) ∧ KM (W 0 11) W X ∧ KX t V U ∧ W 0 5 < X 0 5 ∧ (12 ≤ m → ¬ sgnZ X = 38) ∧ (13 ≤ m → ¬ sgnZ X = 124) ∧ CR t V U) ∨ BAD a U r
def BRC (d : Int) (brk : Int → ((Nat → Nat → Int) → (Nat → Nat → Int) → (Nat → Nat → Nat) → Int × (Nat → Nat → Int) → Prop)) : Prop := ∀ (t : Nat) (s a : Int) (V W J Jm U : Nat → Nat → Int) (R Rm : Nat → Nat → Nat) (r : Int × (Nat → Nat → Int)), isTx t → R 72 1 = t → RS1 t d s V W [] → 0 ≤ W 0 11 → sgnZ W = 40 → brk 41 V J R (a, U) → RCz Jm Rm (opnd W 13) r →
  (a = 1 ∧ ∃ X : Nat → Nat → Int, (W 0 11 = 0 → r = (1, X)) ∧ (¬ W 0 11 = 0 → RE Jm Rm X r) ∧ RS1 t d s U X [] ∧ X 0 11 = W 0 11 ∧ KM (W 0 11) W X ∧ KX t V U ∧ W 0 5 < X 0 5 ∧ CR t V U) ∨ BAD a U r
theorem wtop_km {W X : Nat → Nat → Int} (h : KM (W 0 11) W X) (e : X 0 11 = W 0 11) (hb : 1 ≤ W 0 11) : wtop X = wtop W := by
  unfold wtop
  rw [e, if_neg (by omega), if_neg (by omega), h.1 _ (by omega)]
theorem PIES.lv {d : Int} {pie : ((Nat → Nat → Int) → (Nat → Nat → Int) → (Nat → Nat → Nat) → Int × (Nat → Nat → Int) → Prop)} (h : PIES d pie) : LV 11 d pie := by
  intro t s a V W J Jm U R Rm r ht hR hS hT hx hm
  rcases h t s a V W J Jm U R Rm r ht hR hS ⟨hT.1, by have := hT.2.1; omega, hT.2.2⟩ hx hm with ⟨f1, X, f2, f3, f4, f5, f6, f7, f8⟩ | hb
  · have e := wtop_km f5 f4 hT.1
    exact Or.inl ⟨f1, X, [], f2.go (by rw [e]; have := hT.2.1; omega), f3.sp, ⟨by have := hT.1; omega, by rw [f4]; simp, fun i hi => by simp at hi⟩, fun p hp => by simp at hp, f5, f6, f7, fun h => absurd h (by decide), fun h => absurd h (by decide), f8⟩
  · exact Or.inr hb
theorem jmpd_v (W : Nat → Nat → Int) (o : Int) : jmpd W o 0 5 = W 0 5 + 1 ∧ jmpd W o 0 10 = W 0 10 + 1 ∧ jmpd W o 0 11 = W 0 11 + 1 ∧ (∀ k : Nat, k ≠ 5 → k ≠ 10 → k ≠ 11 → jmpd W o 0 k = W 0 k) ∧ (∀ k : Nat, jmpd W o 5 k = if k = (W 0 10).toNat then 1048576 * o + 0 else W 5 k) ∧ (∀ k : Nat, jmpd W o 6 k = if k = (W 0 11).toNat then 1048576 * o + W 0 10 else W 6 k) ∧ ∀ i : Nat, i ≠ 0 → i ≠ 5 → i ≠ 6 → jmpd W o i = W i := by
  unfold jmpd
  refine ⟨up2_s _ _ _ _, ?_, ?_, fun k k1 k2 k3 => ?_, fun k => ?_, fun k => ?_, fun i i1 i2 i3 => ?_⟩
  · rw [up2_n _ _ (Or.inr (by decide)), up2_s]
  · rw [up2_n _ _ (Or.inr (by decide)), up2_n _ _ (Or.inr (by decide)), up2_n _ _ (Or.inl (by decide)), up2_s]
  · rw [up2_n _ _ (Or.inr k1), up2_n _ _ (Or.inr k2), up2_n _ _ (Or.inl (by decide)), up2_n _ _ (Or.inr k3), up2_n _ _ (Or.inl (by decide))]
  · rw [up2_n _ _ (Or.inl (by decide)), up2_n _ _ (Or.inl (by decide))]
    by_cases e : k = (W 0 10).toNat
    · subst e; rw [up2_s, if_pos rfl]
    · rw [up2_n _ _ (Or.inr e), if_neg e, up2_n _ _ (Or.inl (by decide)), up2_n _ _ (Or.inl (by decide))]
  · rw [up2_n _ _ (Or.inl (by decide)), up2_n _ _ (Or.inl (by decide)), up2_n _ _ (Or.inl (by decide)), up2_n _ _ (Or.inl (by decide))]
    by_cases e : k = (W 0 11).toNat
    · subst e; rw [up2_s, if_pos rfl]
    · rw [up2_n _ _ (Or.inr e), if_neg e]
  · rw [up2_c _ _ i1, up2_c _ _ i1, up2_c _ _ i2, up2_c _ _ i1, up2_c _ _ i3]
/-- a jump of one's own that waits (j; -1: none) -/
def LJ (t : Nat) (m : Int) (V V2 : Nat → Nat → Int) (j : Int) (P PO : List (Int × Int)) : Prop :=
  (j = -1 ∧ PO = [] ∧ CR t V V2) ∨ (V t 1 ≤ j ∧ j < V2 t 1 ∧ PO = [(m, j)] ∧ V2 (t + 1) j.toNat = m + 16 * 0 ∧ (∀ p ∈ P, j < p.2) ∧ (∀ k : Nat, (k : Int) < V t 1 → V2 (t + 1) k = V (t + 1) k) ∧ CG (V2 (t + 1)) (V t 1) j ∧ CG (V2 (t + 1)) (j + 1) (V2 t 1))
theorem LJ.land {t : Nat} {m j : Int} {V V2 X Vb V3 J : Nat → Nat → Int} {R : Nat → Nat → Nat} {P PO : List (Int × Int)} (hJ : LJ t m V V2 j P PO) (hm : m = 11 ∨ m = 12) (hC : CP t V2 X P) (h0 : 0 ≤ V t 1) (h2 : 0 ≤ V2 t 1 ∧ V2 t 1 ≤ 200) (e1 : Vb t = V2 t) (e2 : Vb (t + 1) = V2 (t + 1)) (h : f_r_land t j Vb J R V3) :
    CP t V3 X (P ++ PO) ∧ CR t V V3 ∧ V3 t = V2 t ∧ ∀ i : Nat, i ≠ t + 1 → V3 i = Vb i := by
  obtain ⟨l1, l2⟩ := q_land (o := m) h (by rw [e1]; exact h2)
  rcases hJ with ⟨j1, j2, j3⟩ | ⟨j1, j2, j3, j4, j5, j6, j7, j8⟩
  · have e3 := l1 (by omega)
    subst e3
    subst j2
    rw [List.append_nil]
    exact ⟨hC.to (by rw [e1]) e2 rfl rfl, j3.cg rfl rfl (by rw [e1]) e2, e1, fun _ _ => rfl⟩
  · have e3 := l2 ⟨by omega, by omega⟩ (by rw [e2]; exact j4) hm
    have et : V3 t = V2 t := by rw [e3, up2_c _ _ (by omega), e1]
    have eo : ∀ k : Nat, ¬ k = j.toNat → V3 (t + 1) k = V2 (t + 1) k := fun k hk => by rw [e3, up2_n _ _ (Or.inr hk), e2]
    have ej : V3 (t + 1) j.toNat = m + 16 * V2 t 1 := by rw [e3, up2_s, e1]
    have e10 := hC.2.1
    subst j3
    refine ⟨hC.land hm ⟨by omega, by omega⟩ (fun p hp => by have := j5 p hp; omega) j4 (by rw [et]) ej eo, ⟨fun k hk => by rw [eo k (by omega)]; exact j6 k hk, ?_⟩, et, fun i hi => by rw [e3, up2_c _ _ hi]⟩
    rw [et]
    exact CG.join (j7.cg fun k k1 k2 => eo k (by omega)) (j8.cg fun k k1 k2 => eo k (by omega)) hm ej
theorem LJ.all {t : Nat} {m j : Int} {V V2 : Nat → Nat → Int} {P PO : List (Int × Int)} (hJ : LJ t m V V2 j P PO) (hm : m = 11 ∨ m = 12) (hP : ∀ p ∈ P, 11 ≤ p.1 ∧ p.1 < m ∧ V t 1 ≤ p.2) : ∀ p ∈ P ++ PO, 11 ≤ p.1 ∧ p.1 < m + 1 ∧ V t 1 ≤ p.2 := fun p hp => by
  rcases List.mem_append.mp hp with hp | hp
  · have := hP p hp; omega
  · rcases hJ with ⟨-, j2, -⟩ | ⟨j1, -, j3, -⟩
    · subst j2; simp at hp
    · subst j3
      simp only [List.mem_cons, List.not_mem_nil, or_false] at hp
      subst hp
      exact ⟨by show 11 ≤ m; omega, by show m < m + 1; omega, j1⟩
/-- what a part comes to, on both sides -/
def LVc (m d : Int) (t : Nat) (s : Int) (V W Jm U : Nat → Nat → Int) (Rm : Nat → Nat → Nat) (r : Int × (Nat → Nat → Int)) : Prop := ∃ (X : Nat → Nat → Int) (P : List (Int × Int)), RG Jm Rm X r ∧ RSP t d s U X P ∧ WJ X (W 0 11) P ∧ (∀ p ∈ P, 11 ≤ p.1 ∧ p.1 < m ∧ V t 1 ≤ p.2) ∧ KM (W 0 11) W X ∧ KX t V U ∧ W 0 5 < X 0 5 ∧ (12 ≤ m → ¬ sgnZ X = 38) ∧ (13 ≤ m → ¬ sgnZ X = 124) ∧ CR t V U
/-- the part ends -/
theorem LV.stop {m c d s j a : Int} {t : Nat} {V W Jm J V2 X U : Nat → Nat → Int} {R Rm : Nat → Nat → Nat} {r : Int × (Nat → Nat → Int)} {P PO : List (Int × Int)} (hm : (m = 11 ∧ c = 38) ∨ (m = 12 ∧ c = 124)) (ht : isTx t) (hR : R 72 1 = t) (h0 : 0 ≤ V t 1) (hG : RG Jm Rm X r) (hS : RSP t d s V2 X P) (hWX : WJ X (W 0 11) (P ++ PO)) (hP : ∀ p ∈ P, 11 ≤ p.1 ∧ p.1 < m ∧ V t 1 ≤ p.2) (hK : KM (W 0 11) W X) (hKX : KX t V V2) (hlt : W 0 5 < X 0 5) (h38 : 12 ≤ m → ¬ sgnZ X = 38) (hJ : LJ t m V V2 j P PO) (hc : ¬ sgnZ X = c)
    (hx : (rdb (R 72 1) fun t112 => calUX (fun i k : Nat => (t112 ≤ i ∧ i ≤ t112 + 4)) V2 (f_r_land t112 j V2 J R) fun V113 => rtn (1, V113)) (a, U)) : a = 1 ∧ LVc (m + 1) d t s V W Jm U Rm r := by
  have tn := tx_ne ht
  have hm1 : m = 11 ∨ m = 12 := by omega
  obtain ⟨s1, s2, s3, s4, s5, s6⟩ := hS
  have sp := s1.2.2.1
  have c1 := s2.1
  have c2 := s2.2.1
  obtain ⟨t0, et0, hx⟩ := rdb_g hx
  rw [hR] at et0
  subst et0
  obtain ⟨V3, h3, -, hx⟩ := hx
  simp only [rtn, Prod.mk.injEq] at hx
  obtain ⟨rfl, rfl⟩ := hx
  obtain ⟨l1, l2, l3, l4⟩ := hJ.land hm1 s2 h0 ⟨by omega, by omega⟩ rfl rfl h3
  have l72 := l4 72 tn.1.2.symm
  refine ⟨rfl, X, P ++ PO, hG, ⟨s1.to (by rw [l72]; exact s1.1) (by rw [l72]) rfl (by omega) (l4 58 tn.2.2.2.1.symm) (l4 59 tn.2.2.2.2.symm) rfl, l1, by rw [l72]; exact s3, s4, s5, by rw [l3]; exact s6⟩, hWX, hJ.all hm1 hP, hK, hKX.tr ⟨fun i i1 i2 i3 => l4 i i3, fun k hk => by rw [l3], by rw [l72]⟩, hlt, fun _ => ?_, fun _ => ?_, l2⟩
  · rcases hm with ⟨m1, m2⟩ | ⟨m1, m2⟩
    · rw [← m2]; exact hc
    · exact h38 (by omega)
  · rcases hm with ⟨m1, m2⟩ | ⟨m1, m2⟩
    · omega
    · rw [← m2]; exact hc
/-- the part goes on: a jump, on both sides -/
theorem LV.fwd {m c d s j j2 : Int} {t : Nat} {V W Jm J V2 X Vb V5 : Nat → Nat → Int} {R Rm : Nat → Nat → Nat} {r : Int × (Nat → Nat → Int)} {P PO : List (Int × Int)} (hm : (m = 11 ∧ c = 38) ∨ (m = 12 ∧ c = 124)) (ht : isTx t) (h0 : 0 ≤ V t 1) (hb : 1 ≤ W 0 11) (htop : ¬ (11 ≤ iDiv (X 6 (W 0 11 - 1).toNat) 1048576 ∧ iDiv (X 6 (W 0 11 - 1).toNat) 1048576 ≤ m)) (hG : RG Jm Rm X r) (hS : RSP t d s V2 X P) (hWX : WJ X (W 0 11) (P ++ PO)) (hP : ∀ p ∈ P, 11 ≤ p.1 ∧ p.1 < m ∧ V t 1 ≤ p.2) (hK : KM (W 0 11) W X) (hKX : KX t V V2) (hJ : LJ t m V V2 j P PO) (hc : sgnZ X = c) (hVb : Vb = up2 V2 72 2 (X 0 5 + 1)) (h5 : f_r_jump t j m Vb J R (j2, V5)) :
    ∃ Y : Nat → Nat → Int, RCz Jm Rm Y r ∧ RS1 t d s V5 Y [] ∧ TOP m Y ∧ KM (W 0 11) W Y ∧ KX t V V5 ∧ Y 0 11 = W 0 11 + 1 ∧ Y 0 5 = X 0 5 + 1 ∧ Y 6 (W 0 11).toNat = 1048576 * m + j2 ∧ V5 t 1 = j2 + 1 ∧ V5 (t + 1) j2.toNat = m + 16 * 0 ∧ V t 1 ≤ j2 ∧ (∀ k : Nat, (k : Int) < V t 1 → V5 (t + 1) k = V (t + 1) k) ∧ CG (V5 (t + 1)) (V t 1) j2 := by
  have tn := tx_ne ht
  have hm1 : m = 11 ∨ m = 12 := by omega
  have hlm : 2 ≤ m ∧ m ≤ 12 := by omega
  obtain ⟨s1, s2, s3, s4, s5, s6⟩ := hS
  have sp := s1.2.2.1
  have c1 := s2.1
  have c2 := s2.2.1
  have hltX : X 0 5 < X 0 6 := sgn_lt (by omega)
  have all1 := hJ.all hm1 hP
  obtain ⟨V3, k1, k2, k3⟩ := q_jump h5
  obtain ⟨l1, l2, l3, l4⟩ := hJ.land hm1 s2 h0 ⟨by omega, by omega⟩ (by rw [hVb, up2_c _ _ tn.1.1]) (by rw [hVb, up2_c _ _ tn.1.2]) k1
  have V3t : V3 t 1 = V2 t 1 := by rw [l3]
  have hp5 := q_put k2 (by omega) (by decide) (by omega)
  obtain ⟨Y, ⟨nY, hY⟩, hY2⟩ := hG.jmp (o := m) (by omega)
  obtain ⟨y1, y2, y3, y4, y5⟩ := landed (t := t) hm1 (by omega) (P ++ PO) nY X Y l1 hWX (fun p hp => by have := all1 p hp; omega) hb htop hY
  have hRC := hY2 (sgn_eq (y4 5 (by decide)) (y4 6 (by decide)) (y5 4 (by decide) (by decide)))
  obtain ⟨v1, v2, v3, v4, v5, v6, v7⟩ := jmpd_v Y m
  have y05 := y4 5 (by decide)
  have y010 := y4 10 (by decide)
  have V5t : V5 t 1 = V2 t 1 + 1 := by rw [hp5, up2_s, V3t]
  have V5o : ∀ k : Nat, ¬ k = (V2 t 1).toNat → V5 (t + 1) k = V3 (t + 1) k := fun k hk => by rw [hp5, up2_n _ _ (Or.inl (by omega)), V3t, up2_n _ _ (Or.inr hk)]
  have V5r : ∀ i : Nat, i ≠ t → i ≠ t + 1 → V5 i = Vb i := fun i i1 i2 => by rw [hp5, up2_c _ _ i1, up2_c _ _ i2, l4 i i2]
  have V5j : V5 (t + 1) (V2 t 1).toNat = m + 16 * 0 := by rw [hp5, up2_n _ _ (Or.inl (by omega)), V3t, up2_s]
  have V572 : ∀ k : Nat, k ≠ 2 → V5 72 k = V2 72 k := fun k hk => by rw [V5r 72 tn.1.1.symm tn.1.2.symm, hVb, up2_n _ _ (Or.inr hk)]
  have ej2 : j2 = V2 t 1 := by omega
  have lcg := l2.2.2.1
  refine ⟨jmpd Y m, hRC, ⟨s1.to ?_ (V572 3 (by decide)) ?_ ?_ ?_ ?_ ?_, ?_, by rw [V572 4 (by decide)]; exact s3, by rw [v4 9 (by decide) (by decide) (by decide), y4 9 (by decide)]; exact s4, s5, ?_⟩, ⟨by omega, ?_⟩, ?_, ?_, by omega, by omega, ?_, by omega, by rw [ej2]; exact V5j, by omega, fun k hk => ?_, ?_⟩
  · rw [V5r 72 tn.1.1.symm tn.1.2.symm, hVb, up2_s, v1, y05]
  · rw [v4 6 (by decide) (by decide) (by decide), y4 6 (by decide)]
  · omega
  · rw [V5r 58 tn.2.1.symm tn.2.2.2.1.symm, hVb, up2_c _ _ (by decide)]
  · rw [V5r 59 tn.2.2.1.symm tn.2.2.2.2.symm, hVb, up2_c _ _ (by decide)]
  · rw [v7 4 (by decide) (by decide) (by decide), y5 4 (by decide) (by decide)]
  · rw [hp5]
    exact y1.ca.both (by rw [show m + 16 * 0 = m by omega]; exact stw_op hlm) v2 v5
  · omega
  · have : wtop (jmpd Y m) = m := by
      unfold wtop
      rw [v3, y2, if_neg (by omega), show (W 0 11 + 1 - 1).toNat = (W 0 11).toNat by omega, v6, y2, if_pos rfl]
      exact (iDiv_p (by omega) (by decide)).trans (by omega)
    omega
  · exact hK.tr ⟨fun k hk => by rw [v6, if_neg (by omega), y3], fun i i1 i2 i3 => (v7 i i1 i2 i3).trans (y5 i i1 i2), (v4 6 (by decide) (by decide) (by decide)).trans (y4 6 (by decide)), (v4 12 (by decide) (by decide) (by decide)).trans (y4 12 (by decide)), (v4 4 (by decide) (by decide) (by decide)).trans (y4 4 (by decide))⟩ (Int.le_refl _)
  · exact hKX.tr ⟨fun i i1 i2 i3 => by rw [V5r i i2 i3, hVb, up2_c _ _ i1], fun k hk => by rw [hp5, up2_n _ _ (Or.inr hk), up2_n _ _ (Or.inl (by omega)), l3], V572 3 (by decide)⟩
  · rw [v6, y2, if_pos rfl]
    omega
  · rw [V5o k (by omega)]
    exact l2.1 k hk
  · have := l2.2
    rw [V3t] at this
    rw [ej2]
    exact this.cg fun k k1 k2 => V5o k (by omega)
/-- behind the part's next piece -/
theorem WJ.app {X : Nat → Nat → Int} {b m j : Int} {P : List (Int × Int)} (h : WJ X (b + 1) P) (hb : 0 ≤ b) (e : X 6 b.toNat = 1048576 * m + j) : WJ X b (P ++ [(m, j)]) := by
  obtain ⟨w1, w2, w3⟩ := h
  refine ⟨hb, by rw [w2]; simp only [List.length_append, List.length_cons, List.length_nil, Int.natCast_add]; omega, fun k hk => ?_⟩
  simp only [List.length_append, List.length_cons, List.length_nil] at hk
  by_cases g : k < P.length
  · rw [w3 k g, List.getD_eq_getElem?_getD, List.getD_eq_getElem?_getD, List.getElem?_append_left g]
  · have ek : k = P.length := by omega
    have e1 : (P ++ [(m, j)]).getD k (0, 0) = (m, j) := by
      rw [ek, List.getD_eq_getElem?_getD, List.getElem?_append_right (Nat.le_refl _)]; simp
    rw [e1, show (X 0 11).toNat - 1 - k = b.toNat by omega, e]
theorem LV.of {m c d : Int} {sub : ((Nat → Nat → Int) → (Nat → Nat → Int) → (Nat → Nat → Nat) → Int × (Nat → Nat → Int) → Prop)} (hF : LV m d sub) (hm : (m = 11 ∧ c = 38) ∨ (m = 12 ∧ c = 124)) (hd : 0 ≤ d ∧ d ≤ 6) : LV (m + 1) d (prtX c m sub) := by
  intro t s a V W J Jm U R Rm r ht hR hS hT hx hmm
  have hV0 : 0 ≤ V t 1 := by have := hS.2.1.2.1; have := hS.2.1.1; simp only [List.length_nil] at *; omega
  have hb := hT.1
  have htop : ∀ X : Nat → Nat → Int, KM (W 0 11) W X → ¬ (11 ≤ iDiv (X 6 (W 0 11 - 1).toNat) 1048576 ∧ iDiv (X 6 (W 0 11 - 1).toNat) 1048576 ≤ m) := fun X k => by
    rw [k.1 _ (by omega)]
    have h2 := hT.2.1
    unfold wtop at h2
    rw [if_neg (by omega)] at h2
    omega
  show (a = 1 ∧ LVc (m + 1) d t s V W Jm U Rm r) ∨ BAD a U r
  unfold prtX at hx
  obtain ⟨z1, V1, h1, -, z1r, hx⟩ := hx
  rcases hF t s z1 V W J Jm V1 R Rm r ht hR hS ⟨hb, by have := hT.2.1; omega, hT.2.2⟩ h1 hmm with ⟨f1, X1, P1, f2, f3, f4, f5, f6, f7, f8, f9, f10, f11⟩ | hbad
  · rw [if_pos (by omega)] at hx
    obtain ⟨bT, hbT, hx⟩ := lop3_g hx
    have key : ∀ (n i : Nat) (j : Int) (V2 X : Nat → Nat → Int) (P PO : List (Int × Int)), (i : Int) ≤ X 0 5 → RG Jm Rm X r → RSP t d s V2 X P → WJ X (W 0 11) (P ++ PO) → (∀ p ∈ P, 11 ≤ p.1 ∧ p.1 < m ∧ V t 1 ≤ p.2) → KM (W 0 11) W X → KX t V V2 → W 0 5 < X 0 5 → (12 ≤ m → ¬ sgnZ X = 38) → LJ t m V V2 j P PO →
        lop3 n bT (i : Int) j V2 (a, U) → (a = 1 ∧ LVc (m + 1) d t s V W Jm U Rm r) ∨ BAD a U r := by
      intro n
      induction n with
      | zero => intro i j V2 X P PO _ _ _ _ _ _ _ _ _ _ hx; exact False.elim hx
      | succ n ih =>
        intro i j V2 X P PO hi hG hS2 hWX hP hK hKX hlt h38 hJ hx
        have s1 := hS2.1
        have sp := s1.2.2.1
        rw [lop3_s hbT] at hx
        by_cases g200 : (200 : Int) ≤ i
        · rw [if_pos g200] at hx
          refine Or.inl (LV.stop hm ht hR hV0 hG hS2 hWX hP hK hKX hlt h38 hJ ?_ hx)
          have e : sgnZ X = -1 := by
            unfold sgnZ
            rw [if_pos (by omega)]
          omega
        · rw [if_neg g200] at hx
          obtain ⟨q, hq, hx⟩ := hx
          have hq := q_peek s1 hq
          subst hq
          by_cases gc : sgnZ X = c
          · rw [if_neg (fun hh => hh gc)] at hx
            have hltX : X 0 5 < X 0 6 := sgn_lt (by omega)
            obtain ⟨z118, e118, hx⟩ := rdb_g hx
            obtain ⟨z119, e119, hx⟩ := rdb_g hx
            obtain ⟨Vb, eb, hx⟩ := rdb_g hx
            obtain ⟨t0, et0, hx⟩ := rdb_g hx
            rw [hR] at et0
            subst et0
            obtain ⟨j2, V5, h5, -, hx⟩ := hx
            obtain ⟨z123, V6, h6, -, z123r, hx⟩ := hx
            rw [← e118, s1.1, wr_id ⟨by omega, by omega⟩] at e119
            have hVb : Vb = up2 V2 72 2 (X 0 5 + 1) := by rw [← eb, ← e119]
            obtain ⟨Y, y1, y2, y3, y4, y5, y6, y7, y8, y9, y10, y11, y12, y13⟩ := LV.fwd hm ht hV0 hb (htop X hK) hG hS2 hWX hP hK hKX hJ gc hVb h5
            rcases hF t s z123 V5 Y J Jm V6 R Rm r ht hR y2 y3 h6 y1 with ⟨g1, X3, P3, g2, g3, g4, g5, g6, g7, g8, g9, g10, g11⟩ | hbad
            · rw [if_pos (by omega)] at hx
              rw [y6] at g4 g6
              have gcg := g11.2
              have gpr := g11.1
              rw [y9] at gcg gpr
              refine ih (i + 1) j2 V6 X3 P3 [(m, j2)] (by omega) g2 g3 (g4.app (by omega) (by rw [g6.1 _ (by omega)]; exact y8)) (fun p hp => ?_) (y4.tr g6 (by omega)) (y5.tr g7) (by omega) g9 (Or.inr ⟨y11, ?_, rfl, ?_, fun p hp => ?_, fun k hk => ?_, ?_, gcg⟩) (by rw [Int.natCast_add]; exact hx)
              · have := g5 p hp
                omega
              · have := gcg.2.1
                omega
              · rw [gpr _ (by omega)]; exact y10
              · have := g5 p hp
                omega
              · rw [gpr k (by omega)]
                exact y12 k hk
              · exact y13.cg fun k k1 k2 => gpr k (by omega)
            · rw [if_neg (by have := hbad.1; omega)] at hx
              simp only [rtn, Prod.mk.injEq] at hx
              obtain ⟨rfl, rfl⟩ := hx
              exact Or.inr ⟨rfl, hbad.2⟩
          · rw [if_pos gc] at hx
            exact Or.inl (LV.stop hm ht hR hV0 hG hS2 hWX hP hK hKX hlt h38 hJ gc hx)
    exact key 202 0 (-1) V1 X1 P1 [] (by have := f3.1.2.2.1; omega) f2 f3 (by rw [List.append_nil]; exact f4) f5 f6 f7 f8 f9 (Or.inl ⟨rfl, rfl, f11⟩) hx
  · rw [if_neg (by have := hbad.1; omega)] at hx
    simp only [rtn, Prod.mk.injEq] at hx
    obtain ⟨rfl, rfl⟩ := hx
    exact Or.inr ⟨rfl, hbad.2⟩
end
