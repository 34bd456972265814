-- reading: terms, sums, brackets (own work)
/-- behind closesSums -/
theorem closed {z4 x b : Int} {t : Nat} {d s : Int} {V W X J : Nat → Nat → Int} {R : Nat → Nat → Nat} {P A : List Int} {n : Nat} (hx : x = 0 ∨ x = 1) (h : lop1 n (clB x J R) W X) (hS : RS1 t d s V W P) (hW : WS W b (P ++ A)) (hP : ∀ o ∈ P, popc x o) (hP2 : opsL P) (hA : ∀ Y : Nat → Nat → Int, Y 6 = W 6 → WS Y b A → ¬ popc x (wtop Y)) : RS1 t d s V X [] ∧ WS X b A ∧ (∀ m : Int, KM m W X) ∧ X 6 = W 6 ∧ X 0 5 = W 0 5 ∧ X 0 6 = W 0 6 ∧ X 0 9 = W 0 9 := by
  have e := cl_all hx P A n b W h hW hP hA
  obtain ⟨s1, s2, s3, s4, s5, s6⟩ := hS
  have f0 : ∀ k : Nat, k ≠ 10 → k ≠ 11 → X 0 k = W 0 k := fun k k1 k2 => by rw [e]; exact fold_0 k1 k2 P W
  have fr : ∀ i : Nat, i ≠ 0 → i ≠ 5 → X i = W i := fun i i1 i2 => by rw [e]; exact fold_r i1 i2 P W
  refine ⟨⟨s1.to (by rw [f0 5 (by decide) (by decide)]; exact s1.1) rfl (f0 6 (by decide) (by decide)) (by rw [f0 5 (by decide) (by decide)]; have := s1.2.2.1; omega) rfl rfl (fr 4 (by decide) (by decide)), ?_, s3, by rw [f0 9 (by decide) (by decide)]; exact s4, s5, by rw [f0 5 (by decide) (by decide)]; exact s6⟩, ?_, fun m => by rw [e]; exact KM.fold P, fr 6 (by decide) (by decide), f0 5 (by decide) (by decide), f0 6 (by decide) (by decide), f0 9 (by decide) (by decide)⟩
  · rw [e]
    refine CA.fold P W ?_ (fun o ho => by have := hP2 o ho; omega)
    rw [List.append_nil]; exact s2
  · rw [e]; exact WS.fold P W hW
theorem bot_np {x : Int} {Y W : Nat → Nat → Int} {b : Int} (hx : x = 0 ∨ x = 1) (hb : bot W b) (h6 : Y 6 = W 6) (hW : WS Y b []) : ¬ popc x (wtop Y) := by
  obtain ⟨h1, h2, -⟩ := hW
  simp only [List.length_nil, Int.natCast_zero, Int.add_zero] at h2
  unfold wtop popc
  rw [h2, h6]
  rcases hb with hb | hb
  · rw [if_pos hb]; omega
  · by_cases g : b = 0
    · rw [if_pos g]; omega
    · rw [if_neg g]; omega
theorem pshd_5 (W : Nat → Nat → Int) (s : Int) : pshd W s 0 5 = W 0 5 + 1 := by unfold pshd; rw [up2_s]
theorem pshd_11 (W : Nat → Nat → Int) (s : Int) : pshd W s 0 11 = W 0 11 + 1 := by unfold pshd; rw [up2_n _ _ (Or.inr (by decide)), up2_s]
theorem pshd_0 (W : Nat → Nat → Int) (s : Int) {k : Nat} (h : k ≠ 5) (h2 : k ≠ 11) : pshd W s 0 k = W 0 k := by unfold pshd; rw [up2_n _ _ (Or.inr h), up2_n _ _ (Or.inr h2), up2_n _ _ (Or.inl (by decide))]
theorem pshd_r (W : Nat → Nat → Int) (s : Int) {i : Nat} (h : i ≠ 0) (h2 : i ≠ 6) : pshd W s i = W i := by unfold pshd; rw [up2_c _ _ h, up2_c _ _ h, up2_c _ _ h2]
theorem pshd6 {W : Nat → Nat → Int} {s : Int} {k : Nat} : pshd W s 6 k = up2 W 6 (W 0 11).toNat (1048576 * s) 6 k := by unfold pshd; rw [up2_n _ _ (Or.inl (by decide)), up2_n _ _ (Or.inl (by decide))]
theorem WS.pshd {W : Nat → Nat → Int} {b s : Int} {O : List Int} (h : WS W b O) : WS (pshd W s) b (s :: O) := by
  obtain ⟨h1, h2, h3⟩ := h
  refine ⟨h1, by rw [pshd_11, h2]; simp only [List.length_cons, Int.natCast_add]; omega, fun i hi => ?_⟩
  rw [pshd_11]
  simp only [List.length_cons] at hi
  cases i with
  | zero =>
    rw [show (W 0 11 + 1).toNat - 1 - 0 = (W 0 11).toNat by omega, pshd6, up2_s]; rfl
  | succ i =>
    rw [show (W 0 11 + 1).toNat - 1 - (i + 1) = (W 0 11).toNat - 1 - i by omega, pshd6, up2_n _ _ (Or.inr (by omega)), h3 i (by omega)]; rfl
/-- a sign of a sum is passed: the reference lays it on its stack -/
theorem RS1.psh {t : Nat} {d s k : Int} {V X : Nat → Nat → Int} (h : RS1 t d s V X []) (ht : isTx t) (hlt : X 0 5 < X 0 6) : RS1 t d (s + 1) (up2 V 72 2 (X 0 5 + 1)) (pshd X k) [] :=
  h.adv ht hlt rfl (pshd_5 X k) (pshd_0 X k (by decide) (by decide)) (pshd_0 X k (by decide) (by decide)) (pshd_0 X k (by decide) (by decide)) (pshd_r X k (by decide) (by decide)) (pshd_r X k (by decide) (by decide))
theorem KX.adv {t : Nat} {V : Nat → Nat → Int} {p : Int} (ht : isTx t) : KX t V (up2 V 72 2 p) := by
  have tn := tx_ne ht
  exact ⟨fun i a b c => up2_c _ _ a, fun k hk => up2_n _ _ (Or.inl tn.1.1), up2_n _ _ (Or.inr (by decide))⟩
theorem KX.put {t : Nat} {V : Nat → Nat → Int} {q : Nat} {x y : Int} (ht : isTx t) : KX t V (up2 (up2 V (t + 1) q x) t 1 y) := by
  have tn := tx_ne ht
  exact ⟨fun i a b c => by rw [up2_c _ _ b, up2_c _ _ c], fun k hk => by rw [up2_n _ _ (Or.inr hk), up2_n _ _ (Or.inl (by omega))], by rw [up2_n _ _ (Or.inl tn.1.1.symm), up2_n _ _ (Or.inl tn.1.2.symm)]⟩
/-- the first side puts the operator that it has read -/
theorem RS1.put {t : Nat} {d s k : Int} {V X : Nat → Nat → Int} {L : List Int} (h : RS1 t d (s + 1) V X L) (ht : isTx t) (hs : 0 ≤ s) : RS1 t d s (up2 (up2 V (t + 1) (V t 1).toNat (k + 16 * 0)) t 1 (V t 1 + 1)) X (L ++ [k]) := by
  have tn := tx_ne ht
  obtain ⟨s1, s2, s3, s4, s5, s6⟩ := h
  refine ⟨s1.to ?_ ?_ rfl (by have := s1.2.2.1; omega) ?_ ?_ rfl, s2.put, ?_, s4, hs, ?_⟩
  · rw [up2_n _ _ (Or.inl tn.1.1.symm), up2_n _ _ (Or.inl tn.1.2.symm)]; exact s1.1
  · rw [up2_n _ _ (Or.inl tn.1.1.symm), up2_n _ _ (Or.inl tn.1.2.symm)]
  · rw [up2_c _ _ tn.2.1.symm, up2_c _ _ tn.2.2.2.1.symm]
  · rw [up2_c _ _ tn.2.2.1.symm, up2_c _ _ tn.2.2.2.2.symm]
  · rw [up2_n _ _ (Or.inl tn.1.1.symm), up2_n _ _ (Or.inl tn.1.2.symm)]; exact s3
  · rw [up2_s]; omega
theorem bot.km {W X : Nat → Nat → Int} {b n : Int} (h : bot W b) (k : KM n W X) (hn : b ≤ n) (hb : 0 ≤ b) : bot X b := by
  rcases h with h | h
  · exact Or.inl h
  · by_cases g : b = 0
    · exact Or.inl g
    · exact Or.inr (by rw [k.1 _ (by omega)]; exact h)
theorem TRMS.of {d : Int} {fac : ((Nat → Nat → Int) → (Nat → Nat → Int) → (Nat → Nat → Nat) → Int × (Nat → Nat → Int) → Prop)} (hF : FACS d fac) (hd : 0 ≤ d ∧ d ≤ 6) : TRMS d (termX fac) := by
  intro t s z4 b a A V W J Jm U R Rm r ht hR hS hA hW hb hz hx hm
  have tn := tx_ne ht
  have hs := hS.2.2.2.2.1
  unfold termX at hx
  obtain ⟨z1, V1, h1, -, z1r, hx⟩ := hx
  have hW11 : b ≤ W 0 11 := by have := hW.2.1; omega
  rcases hF t s z4 z1 V W J Jm V1 R Rm r ht hR hS ⟨hz.1, by omega⟩ h1 hm with ⟨f1, X1, f2, f3, f4, f5, f6, f7, f10⟩ | hbad
  · rw [if_pos (by omega)] at hx
    obtain ⟨bT, hbT, hx⟩ := lop2_g hx
    have key : ∀ (n i : Nat) (V2 X : Nat → Nat → Int) (M : List Int), (i : Int) ≤ X 0 5 → (M = [] ∨ ∃ m : Int, M = [m] ∧ 4 ≤ m ∧ m ≤ 6) → RB z4 Jm Rm X r → RS1 t d s V2 X M → WS X b (M ++ A) → KM b W X → KX t V V2 → W 0 5 < X 0 5 → GR t V V2 (14 - 2 * d) → lop2 n bT (i : Int) V2 (a, U) →
        (a = 1 ∧ ∃ (X : Nat → Nat → Int) (M : List Int), (M = [] ∨ ∃ m : Int, M = [m] ∧ 4 ≤ m ∧ m ≤ 6) ∧ RB z4 Jm Rm X r ∧ RS1 t d s U X M ∧ WS X b (M ++ A) ∧ KM b W X ∧ KX t V U ∧ W 0 5 < X 0 5 ∧ (¬ sgnZ X = 42 ∧ ¬ sgnZ X = 47 ∧ ¬ sgnZ X = 37) ∧ GR t V U (14 - 2 * d)) ∨ BAD a U r := by
      intro n
      induction n with
      | zero => intro i V2 X M _ _ _ _ _ _ _ _ _ hx; exact False.elim hx
      | succ n ih =>
        intro i V2 X M hi hM hB hS2 hWX hK hKX hlt hGR hx
        have hS3 := hS2
        obtain ⟨s1, s2, s3, s4, s5, s6⟩ := hS2
        have sp := s1.2.2.1
        rw [lop2_s hbT] at hx
        have done : (¬ sgnZ X = 42 ∧ ¬ sgnZ X = 47 ∧ ¬ sgnZ X = 37) → (a, U) = ((1 : Int), V2) → (a = 1 ∧ ∃ (X : Nat → Nat → Int) (M : List Int), (M = [] ∨ ∃ m : Int, M = [m] ∧ 4 ≤ m ∧ m ≤ 6) ∧ RB z4 Jm Rm X r ∧ RS1 t d s U X M ∧ WS X b (M ++ A) ∧ KM b W X ∧ KX t V U ∧ W 0 5 < X 0 5 ∧ (¬ sgnZ X = 42 ∧ ¬ sgnZ X = 47 ∧ ¬ sgnZ X = 37) ∧ GR t V U (14 - 2 * d)) := fun h1 h2 => by
          simp only [Prod.mk.injEq] at h2
          obtain ⟨rfl, rfl⟩ := h2
          exact ⟨rfl, X, M, hM, hB, hS3, hWX, hK, hKX, hlt, h1, hGR⟩
        by_cases g200 : (200 : Int) ≤ i
        · rw [if_pos g200] at hx
          refine Or.inl (done ?_ hx)
          unfold sgnZ
          rw [if_pos (by omega)]; decide
        · rw [if_neg g200] at hx
          obtain ⟨c, hc, hx⟩ := hx
          have hc := q_peek s1 hc
          subst hc
          obtain ⟨k, hk, kr, hx⟩ := hx
          have hk := q_stepOf hk
          by_cases g4 : k < 4
          · rw [if_pos g4] at hx
            exact Or.inl (done (by omega) hx)
          · rw [if_neg g4] at hx
            by_cases g6 : k ≤ 6
            · rw [if_pos g6] at hx
              have hltp := sgn_lt (W := X) (by omega)
              obtain ⟨q1, e1, hx⟩ := rdb_g hx
              obtain ⟨q2, e2, hx⟩ := rdb_g hx
              obtain ⟨V3, e3, hx⟩ := rdb_g hx
              rw [← e1, s1.1, wr_id ⟨by omega, by omega⟩] at e2
              rw [← e2] at e3
              obtain ⟨z7, V4, h4, -, z7r, hx⟩ := hx
              -- the reference
              obtain ⟨sg, hsg, hcase⟩ := RB.sg hB hz.1 (by omega) (by omega)
              have hsg := q_sumSign hsg
              have esg : sg = k := by omega
              subst esg
              rcases hcase with ⟨c1, c2, X2, ⟨m2, hX2⟩, hRA⟩ | ⟨c1, -⟩ | ⟨c1, -⟩
              · have hb2 := hb.km hK (Int.le_refl _) hW.1
                obtain ⟨t1, t2, t3, t4, t5, t6, t7⟩ := closed (z4 := z4) (Or.inl rfl) hX2 hS3 hWX (fun o ho => by
                    rcases hM with rfl | ⟨m, rfl, m1, m3⟩
                    · simp at ho
                    · simp only [List.mem_cons, List.not_mem_nil, or_false] at ho; subst ho; exact Or.inl ⟨m1, m3⟩) (fun o ho => by
                    rcases hM with rfl | ⟨m, rfl, m1, m3⟩
                    · simp at ho
                    · simp only [List.mem_cons, List.not_mem_nil, or_false] at ho; subst ho; omega) (fun Y hY hWY => by
                    rcases hA with rfl | rfl | rfl
                    · exact bot_np (Or.inl rfl) hb2 hY hWY
                    · rw [hWY.top (by decide)]; unfold popc; omega
                    · rw [hWY.top (by decide)]; unfold popc; omega)
                have hS4 := t1.psh (k := sg) ht (by omega)
                rw [t5] at hS4
                have hV3 : V3 = up2 V2 72 2 (X 0 5 + 1) := e3.symm
                rw [← hV3] at hS4
                have hW2 := t2.pshd (s := sg)
                have e11 : pshd X2 sg 0 11 = b + A.length + 1 := by rw [pshd_11, t2.2.1]
                have KM2 : KM b W (pshd X2 sg) := (hK.tr (t3 b) (Int.le_refl _)).tr (KM.push (by have := t2.2.1; omega) (by have := t2.2.1; have := t2.1; omega)) (Int.le_refl _)
                rcases hF t (s + 1) z4 z7 V3 (pshd X2 sg) J Jm V4 R Rm r ht hR hS4 ⟨hz.1, by omega⟩ h4 hRA with ⟨g1, X3, g2, g3, g5, g7, g8, g9, g10⟩ | hbad
                · rw [if_pos (by omega)] at hx
                  obtain ⟨t0, et0, hx⟩ := rdb_g hx
                  rw [hR] at et0
                  subst et0
                  obtain ⟨V5, h5, -, hx⟩ := hx
                  have hlen := g3.2.2.2.2.2
                  have hpos := g3.1.2.2.1
                  have hp5 := q_put h5 (by omega) (by decide) (by have := g3.2.1.2.1; have := g3.2.1.1; simp only [List.length_nil] at *; omega)
                  have hS5 := g3.put (k := sg) ht hs
                  rw [← hp5] at hS5
                  refine ih (i + 1) V5 X3 [sg] ?_ (Or.inr ⟨sg, rfl, by omega, by omega⟩) g2 hS5 ?_ (KM2.tr g7 (by omega)) ((hKX.tr (by rw [hV3]; exact KX.adv ht)).tr (g8.tr (by rw [hp5]; exact KX.put ht))) ?_ (by rw [hp5]; exact GR.op hGR (by rw [hV3, up2_n _ _ (Or.inl tn.1.1)]) (by rw [hV3, up2_c _ _ tn.1.2]) g10 (by omega) (by omega)) (by rw [Int.natCast_add]; exact hx)
                  · rw [pshd_5] at g9; omega
                  · obtain ⟨w1, w2, w3⟩ := hW2
                    refine ⟨w1, by rw [g5]; exact w2, fun q hq => ?_⟩
                    rw [g5, g7.1 _ (by simp only [List.length_cons] at hq w2; rw [w2]; omega)]
                    exact w3 q hq
                  · rw [pshd_5] at g9; omega
                · rw [if_neg (by have := hbad.1; omega)] at hx
                  simp only [rtn, Prod.mk.injEq] at hx
                  obtain ⟨rfl, rfl⟩ := hx
                  exact Or.inr ⟨rfl, hbad.2⟩
              · omega
              · omega
            · rw [if_neg g6] at hx
              exact Or.inl (done (by omega) hx)
    exact key 202 0 V1 X1 [] (by have := f3.1.2.2.1; omega) (Or.inl rfl) f2 f3 ⟨hW.1, by rw [f4]; exact hW.2.1, fun q hq => by rw [f4, f5.1 _ (by have := hW.2.1; simp only [List.nil_append] at hq; omega)]; exact hW.2.2 q hq⟩ (⟨fun j hj => f5.1 j (by omega), f5.2⟩) f6 f7 (f10.up (by omega)) hx
  · rw [if_neg (by have := hbad.1; omega)] at hx
    simp only [rtn, Prod.mk.injEq] at hx
    obtain ⟨rfl, rfl⟩ := hx
    exact Or.inr ⟨rfl, hbad.2⟩
