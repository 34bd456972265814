-- answers: rota (own work)
set_option maxRecDepth 100000 in
theorem e_rota {x y z a b : Int} {V V2 J W Jm X : Nat → Nat → Int} {R Rm : Nat → Nat → Nat} (hz : R32 z) (h : WR R V W) (hx : f_s_rota x y z V J R (a, V2)) (hm : f_m_rota x y z W Jm Rm (b, X)) : a = b := by
  have rx := rx_rota hz hx
  have rm := rm_rota hm
  have e1 := h.1.1.isA (x := x)
  have e2 : V 58 1 = W 0 4 := h.2.2.2.2.1
  have e3 : V 1 3 = W 1 79 := h.1.1.2.2.2.1
  have hP9 : ∀ {c : Int} {V3 W3 : Nat → Nat → Int}, rtn (c, V3) (a, V2) → rtn (c, W3) (b, X) → a = b := fun h1 h2 => by
    simp only [rtn, Prod.mk.injEq] at h1 h2
    rw [h1.1, h2.1]
  -- behind the reading
  have run : ∀ {W8 : Nat → Nat → Int} (V14 : Nat → Nat → Int) (z14 : Int), (1 ≤ y ∧ y ≤ 90) → y ≤ W 0 4 → (W8 0 5 = 0 ∧ W8 0 46 = 0 ∧ W8 0 47 = 0 ∧ W8 0 6 = y ∧ W8 0 4 = W 0 4 ∧ W8 4 = W 4 ∧ W8 1 = W 1 ∧ ∀ i : Nat, i ≠ 0 → W8 i = W i) → f_s_readR y 1 V J R (z14, V14) →
      ∀ {F : Int → (Nat → Nat → Int) → Int × (Nat → Nat → Int) → Prop} {z20 : Int} {V20 : Nat → Nat → Int} {fuel : Nat}, f_m_readsWeek W8 Jm Rm (z20, V20) → lop2 fuel (fun rc90 (z89 : Int) (V90 : Nat → Nat → Int) => rdb (V90 0 5) fun z91 => fct (0 ≤ z91 ∧ z91 ≤ 220) <| rdb (V90 0 6) fun z92 => fct (0 ≤ z92 ∧ z92 ≤ 220) <| rdb (V90 0 46) fun z93 => fct (0 ≤ z93 ∧ z93 ≤ 84) <| rdb (V90 0 47) fun z94 => fct (0 ≤ z94 ∧ z94 ≤ 12) <| (if z89 = 0 then rdb (up2 V90 0 4 0) fun V96 => rdb (V96 0 7) fun z97 => rtn (z97, V96) else (if z92 ≤ z91 then rdb (up2 V90 0 4 0) fun V108 => F z93 V108 else calVM 160 V90 (f_m_takes 47 V90 Jm Rm) fun z114 V114 => fct (0 ≤ z114 ∧ z114 ≤ 1) <| rdb (V114 0 5) fun z115 => fct (0 ≤ z115 ∧ z115 ≤ 220) <| (if z114 = 0 then rc90 0 V114 else calVM 19807040628566295504618520736 V114 (f_m_readsWeek V114 Jm Rm) fun z118 V118 => fct (0 ≤ z118 ∧ z118 ≤ 1) <| rdb (V118 0 6) fun z119 => fct (0 ≤ z119 ∧ z119 ≤ 220) <| rdb (V118 0 5) fun z120 => fct (0 ≤ z120 ∧ z120 ≤ 220) <| (if z118 = 0 then rc90 0 V118 else rc90 1 V118))))) z20 V20 (b, X) →
      (¬ z14 = 0 ∧ b = z14) ∨ (z14 = 0 ∧ ∃ (c : Int) (W3 : Nat → Nat → Int), MT (W 1) V V14 W3 c ∧ W3 0 46 = c ∧ (∀ i : Nat, i ≠ 0 → i ≠ 30 → W3 i = W i) ∧ F c W3 (b, X)) := by
    intro W8 V14 z14 hy hyl hW8 hr F z20 V20 fuel hw hl
    obtain ⟨w5, w46, w47, w6, w04, w4, w1, wo⟩ := hW8
    obtain ⟨t1, t2, t3⟩ := h.2.2.2.2
    have hT : TP V W8 := ⟨by rw [w04]; exact t1, by rw [w04]; exact t2, fun k hk => by rw [w4]; exact t3 k (by rw [← w04]; exact hk)⟩
    have hlen : W8 0 6 = y ∧ y ≤ W8 0 4 := ⟨w6, by rw [w04]; exact hyl⟩
    have hRL : RLz 1 V (W8 1) := by rw [w1]; exact h.1.1
    unfold f_s_readR at hr
    obtain ⟨V1, ev1, hr⟩ := rdb_g hr
    have hM0 : MT (W8 1) V V1 W8 0 := ⟨by rw [← ev1, up2_s], fun j hj => by omega, fun i i1 i2 => by rw [← ev1, up2_c _ _ i1]⟩
    have hr : lop5 183 (rxB y 1 J R) 0 0 0 0 V1 (z14, V14) := hr
    have r := rj_reads hT hlen hy hRL (A := 183) (k := 0) (pos := 0) (w := 0) (c := 0) (by omega) (by omega) (by omega) (by omega) (V := V1) (W := W8) ⟨w5, w46, w47, rfl, rfl, fun _ _ _ => rfl⟩ hM0 hr hw
    have all := rj_all (a := z14) (V2 := V14) (b := b) (X := X) (F := F) (J := J) (R := R) (Jm := Jm) (Rm := Rm) hT hlen hy hRL rfl fuel
    have fin : (¬ z14 = 0 ∧ b = z14) ∨ (z14 = 0 ∧ ∃ (c : Int) (W3 : Nat → Nat → Int), MT (W8 1) V V14 W3 c ∧ RWS W8 W3 (W3 0 5) c (W3 0 47) ∧ (∃ W4 : Nat → Nat → Int, W3 = up2 W4 0 4 0) ∧ F c W3 (b, X)) := by
      rcases r with ⟨r1, r2, r3⟩ | ⟨r1, A2, k2, pos2, V3, r2, r3, r4, r5, r6, r7, r8⟩
      · exact all 0 0 0 0 0 z20 V20 V20 (Or.inl ⟨r1, r2, r3⟩) hl
      · exact all A2 k2 pos2 0 _ z20 V3 V20 (Or.inr ⟨r1, r2, r3, ⟨by omega, r4⟩, rfl, r5, r6, r7, r8⟩) hl
    rcases fin with q | ⟨q1, c, W3, q2, q3, -, q4⟩
    · exact Or.inl q
    · exact Or.inr ⟨q1, c, W3, by rw [← w1]; exact q2, q3.2.1, fun i i1 i2 => by rw [q3.2.2.2.2.2 i i1 i2, wo i i1], q4⟩
  unfold f_s_rota at hx
  unfold f_m_rota at hm
  obtain ⟨z1, h1, -, hx⟩ := hx
  obtain ⟨y1, k1, -, hm⟩ := hm
  obtain ⟨ee1, qq1⟩ := h.1.1.alive h1 k1
  subst ee1
  by_cases g1 : z1 = 0
  · rw [if_pos g1] at hx hm; exact hP9 hx hm
  rw [if_neg g1] at hx hm
  have qq1 := qq1.on g1
  obtain ⟨_, -, -, hm⟩ := rdb_g hm
  obtain ⟨_, -, -, hm⟩ := rdb_g hm
  obtain ⟨z4, h4, -, hx⟩ := hx
  obtain ⟨y4, k4, -, hm⟩ := hm
  have h4 := q_sWithin h4
  have e4 : z4 = y4 := h4.eq (q_mIn k4) Iff.rfl
  subst e4
  by_cases g4 : z4 = 0
  · rw [if_pos g4] at hx hm; exact hP9 hx hm
  rw [if_neg g4] at hx hm
  have q4 := h4.on g4
  obtain ⟨z7, e7, -, hx⟩ := rdb_g hx
  obtain ⟨n, rfl⟩ : ∃ n : Nat, x = (n : Int) := ⟨x.toNat, by omega⟩
  have hn : n < 4 := by omega
  -- what the class does behind a good reading
  have walked : ∀ (V14 V15 : Nat → Nat → Int) (W3 : Nat → Nat → Int) (c t q : Int) (V18 X2 : Nat → Nat → Int), up2 V14 58 1 0 = V15 → MT (W 1) V V14 W3 c → W3 0 46 = c → W3 1 = W 1 → (∀ i : Nat, 11 ≤ i → i ≤ 16 → W3 i = W i) → W 1 79 ≤ 9915 → f_s_rotaOn (n : Int) t V15 J R (q, V18) → f_m_goesByRota (n : Int) W3 Jm Rm X2 → (t = 1 → q = X2 0 49) ∧ (¬ t = 1 → q = X2 0 50) := by
    intro V14 V15 W3 c t q V18 X2 e15 hM hc w31 wt hd hro hgo
    obtain ⟨m1, m2, m3⟩ := hM
    have v15 : ∀ i : Nat, i ≠ 58 → i ≠ 124 → i ≠ 125 → V15 i = V i := fun i i1 i2 i3 => by rw [← e15, up2_c _ _ i1]; exact m3 i i2 i3
    unfold f_s_rotaOn at hro
    obtain ⟨V21, k21, -, hro⟩ := hro
    obtain ⟨u1, u2⟩ := q_copy (d := 39) (s := 1) (by omega) k21
    obtain ⟨z2, V22, k22, -, hro⟩ := hro
    have hRc : RLz 1 V15 (W 1) := h.1.1.cg2 (fun i i1 i2 => v15 i (by omega) (by omega) (by omega)) (fun _ _ => rfl)
    have hR39 : RLz 39 V21 (W3 1) := hRc.copy u1 (fun k _ => by rw [w31])
    have hT21 : RTx R V21 W3 := h.2.2.2.1.1.cg (fun i i1 i2 i3 => by rw [u2 i (by omega)]; exact v15 i (by omega) (by omega) (by omega)) wt
    have v21 : ∀ i : Nat, i = 124 ∨ i = 125 → V21 i = V14 i := fun i hi => by rw [u2 i (by omega), ← e15, up2_c _ _ (by omega)]
    obtain ⟨d1, d2⟩ := d_walk hn hR39 hT21 (by rw [w31]; exact qq1.1.2.2) (by rw [w31]; exact qq1.2) (by rw [w31]; exact hd) ⟨by rw [v21 124 (Or.inl rfl)]; exact m1, hc⟩ (fun j hj => by rw [v21 125 (Or.inr rfl), w31]; exact m2 j hj) k22 hgo
    by_cases gt : ¬ t = 1
    · rw [if_pos gt] at hro
      obtain ⟨cc, ecc, hro⟩ := rdb_g hro
      obtain ⟨v, ev, hro⟩ := rdb_g hro
      rw [Int.toNat_natCast] at ecc
      simp only [rtn, Prod.mk.injEq] at hro
      exact ⟨fun hh => absurd hh gt, fun _ => by rw [hro.1, ← ev, ← ecc, d2]⟩
    · rw [if_neg gt] at hro
      simp only [rtn, Prod.mk.injEq] at hro
      exact ⟨fun _ => by rw [hro.1, d1], fun hh => absurd hh gt⟩
  by_cases g7 : y ≤ z7
  · rw [if_pos g7] at hx
    obtain ⟨z9, e9, hx⟩ := rdb_g hx
    by_cases g9 : z9 ≤ 9915
    · rw [if_pos g9] at hx
      obtain ⟨z11, h11, -, hx⟩ := hx
      obtain ⟨y9, k9, -, hm⟩ := hm
      have h11 := q_sWithin h11
      have e11 : z11 = y9 := h11.eq (q_mIn k9) Iff.rfl
      subst e11
      by_cases g11 : ¬ z11 = 0
      · rw [if_pos g11] at hx hm
        have q11 := h11.on g11
        obtain ⟨y12, f12, -, hm⟩ := rdb_g hm
        rw [if_neg (by omega)] at hm
        obtain ⟨y14, f14, hm⟩ := rdb_g hm
        rw [if_pos (by omega)] at hm
        obtain ⟨W1, w1, hm⟩ := rdb_g hm
        obtain ⟨W2, w2, hm⟩ := rdb_g hm
        obtain ⟨W3, w3, hm⟩ := rdb_g hm
        obtain ⟨W4, w4, hm⟩ := rdb_g hm
        obtain ⟨z20, V20, k20, F20, -, hm⟩ := hm
        obtain ⟨_, -, -, hm⟩ := rdb_g hm
        obtain ⟨_, -, -, hm⟩ := rdb_g hm
        obtain ⟨z14, V14, k14, F14, hx⟩ := hx
        obtain ⟨V15, e15, hx⟩ := rdb_g hx
        have o4 : ∀ i : Nat, i ≠ 0 → W4 i = W i := fun i hi => by rw [← w4, up2_c _ _ hi, ← w3, up2_c _ _ hi, ← w2, up2_c _ _ hi, ← w1, up2_c _ _ hi]
        have r4 : W4 0 = up1 (up1 (up1 (up1 (W 0) 5 0) 6 y) 46 0) 47 0 := by rw [← w4, up2_row, ← w3, up2_row, ← w2, up2_row, ← w1, up2_row]
        have hW4 : W4 0 5 = 0 ∧ W4 0 46 = 0 ∧ W4 0 47 = 0 ∧ W4 0 6 = y ∧ W4 0 4 = W 0 4 ∧ W4 4 = W 4 ∧ W4 1 = W 1 ∧ ∀ i : Nat, i ≠ 0 → W4 i = W i := ⟨by rw [r4]; rfl, by rw [r4]; rfl, by rw [r4]; rfl, by rw [r4]; rfl, by rw [r4]; rfl, o4 4 (by decide), o4 1 (by decide), o4⟩
        have res := run V14 z14 q4 (by omega) hW4 k14 (F := fun z93 V108 => (if ¬ z = 0 then calUM 16925072156758100966113280 V108 (f_m_goesByRota (n : Int) V108 Jm Rm) fun V110 => (if ¬ z = 1 then rdb (V110 0 50) fun z112 => rtn (z112, V110) else rdb (V110 0 49) fun z113 => rtn (z113, V110)) else rtn (z93, V108))) k20 hm
        rcases res with ⟨n14, hb⟩ | ⟨n14, c, W5, hM, hc, w51, hF⟩
        · rw [if_neg n14] at hx
          simp only [rtn, Prod.mk.injEq] at hx
          rw [hx.1, hb]
        · rw [if_pos n14] at hx
          have h79 : W 1 79 ≤ 9915 := by omega
          by_cases gz0 : ¬ z = 0
          · rw [if_pos gz0] at hx
            have hF : (if ¬ z = 0 then calUM 16925072156758100966113280 W5 (f_m_goesByRota (n : Int) W5 Jm Rm) fun V110 => (if ¬ z = 1 then rdb (V110 0 50) fun z112 => rtn (z112, V110) else rdb (V110 0 49) fun z113 => rtn (z113, V110)) else rtn (c, W5)) (b, X) := hF
            rw [if_pos gz0] at hF
            obtain ⟨z18, V18, k18, -, hx⟩ := hx
            obtain ⟨X2, j18, -, hF⟩ := hF
            obtain ⟨o1, o2⟩ := walked V14 V15 W5 c z z18 V18 X2 e15 hM hc (w51 1 (by decide) (by decide)) (fun i i1 i2 => w51 i (by omega) (by omega)) h79 k18 j18
            simp only [rtn, Prod.mk.injEq] at hx
            by_cases gz1 : ¬ z = 1
            · rw [if_pos gz1] at hF
              obtain ⟨t, et, hF⟩ := rdb_g hF
              simp only [rtn, Prod.mk.injEq] at hF
              rw [hx.1, hF.1, ← et]
              exact o2 gz1
            · rw [if_neg gz1] at hF
              obtain ⟨t, et, hF⟩ := rdb_g hF
              simp only [rtn, Prod.mk.injEq] at hF
              rw [hx.1, hF.1, ← et]
              exact o1 (by omega)
          · rw [if_neg gz0] at hx
            have hF : (if ¬ z = 0 then calUM 16925072156758100966113280 W5 (f_m_goesByRota (n : Int) W5 Jm Rm) fun V110 => (if ¬ z = 1 then rdb (V110 0 50) fun z112 => rtn (z112, V110) else rdb (V110 0 49) fun z113 => rtn (z113, V110)) else rtn (c, W5)) (b, X) := hF
            rw [if_neg gz0] at hF
            obtain ⟨t, et, -, hx⟩ := rdb_g hx
            simp only [rtn, Prod.mk.injEq] at hx hF
            rw [hx.1, hF.1, ← et, ← e15, up2_n _ _ (Or.inl (by decide))]
            exact hM.1
      · rw [if_neg g11] at hx hm
        obtain ⟨t20, et20, hx⟩ := rdb_g hx
        have w20 := wr_cases (z := z - 10) ⟨by omega, by omega⟩
        obtain ⟨z21, h21, -, hx⟩ := hx
        obtain ⟨y10, k10, -, hm⟩ := hm
        have h21 := q_sPlace h21
        have e21 : z21 = y10 := h21.eq (q_mIn k10) (by omega)
        subst e21
        by_cases g21 : z21 = 0
        · rw [if_neg (fun hh => hh g21)] at hx
          rw [if_pos g21] at hm
          exact hP9 hx hm
        rw [if_pos g21] at hx
        rw [if_neg g21] at hm
        have q21 := h21.on g21
        obtain ⟨y12, f12, -, hm⟩ := rdb_g hm
        rw [if_neg (by omega)] at hm
        obtain ⟨y14, f14, hm⟩ := rdb_g hm
        rw [if_pos (by omega)] at hm
        obtain ⟨W1, w1, hm⟩ := rdb_g hm
        obtain ⟨W2, w2, hm⟩ := rdb_g hm
        obtain ⟨W3, w3, hm⟩ := rdb_g hm
        obtain ⟨W4, w4, hm⟩ := rdb_g hm
        obtain ⟨z20, V20, k20, F20, -, hm⟩ := hm
        obtain ⟨_, -, -, hm⟩ := rdb_g hm
        obtain ⟨_, -, -, hm⟩ := rdb_g hm
        obtain ⟨z14, V14, k14, F14, hx⟩ := hx
        obtain ⟨V15, e15, hx⟩ := rdb_g hx
        have o4 : ∀ i : Nat, i ≠ 0 → W4 i = W i := fun i hi => by rw [← w4, up2_c _ _ hi, ← w3, up2_c _ _ hi, ← w2, up2_c _ _ hi, ← w1, up2_c _ _ hi]
        have r4 : W4 0 = up1 (up1 (up1 (up1 (W 0) 5 0) 6 y) 46 0) 47 0 := by rw [← w4, up2_row, ← w3, up2_row, ← w2, up2_row, ← w1, up2_row]
        have hW4 : W4 0 5 = 0 ∧ W4 0 46 = 0 ∧ W4 0 47 = 0 ∧ W4 0 6 = y ∧ W4 0 4 = W 0 4 ∧ W4 4 = W 4 ∧ W4 1 = W 1 ∧ ∀ i : Nat, i ≠ 0 → W4 i = W i := ⟨by rw [r4]; rfl, by rw [r4]; rfl, by rw [r4]; rfl, by rw [r4]; rfl, by rw [r4]; rfl, o4 4 (by decide), o4 1 (by decide), o4⟩
        have res := run V14 z14 q4 (by omega) hW4 k14 (F := fun z327 V342 => lop2 (86) (fun rc395 (z393 : Int) (z394 : Int) => (if z327 ≤ z393 then rtn (z394, V342) else rdb (V342 30 z393.toNat) fun z403 => fct (-1 ≤ z403 ∧ z403 ≤ 7) <| jnk (fun (z404 : Int) => rdb (wr (z394 + z404)) fun z406 => rc395 (z393 + 1) z406) fun jf405 => (if ¬ z403 = z - 10 then jf405 0 else jf405 1))) 0 0) k20 hm
        rcases res with ⟨n14, hb⟩ | ⟨n14, c, W5, hM, hc, w51, hF⟩
        · rw [if_neg n14] at hx
          simp only [rtn, Prod.mk.injEq] at hx
          rw [hx.1, hb]
        · rw [if_pos n14, if_pos (by omega), if_neg (by omega)] at hx
          obtain ⟨t, ht, hx⟩ := hx
          simp only [rtn, Prod.mk.injEq] at hx
          rw [hx.1]
          have hF : lop2 (86) (fun rc395 (z393 : Int) (z394 : Int) => (if c ≤ z393 then rtn (z394, W5) else rdb (W5 30 z393.toNat) fun z403 => fct (-1 ≤ z403 ∧ z403 ≤ 7) <| jnk (fun (z404 : Int) => rdb (wr (z394 + z404)) fun z406 => rc395 (z393 + 1) z406) fun jf405 => (if ¬ z403 = z - 10 then jf405 0 else jf405 1))) 0 0 (b, X) := hF
          unfold f_s_daysOf at ht
          obtain ⟨bX, hbX, ht9⟩ := lop2_g ht
          obtain ⟨bM, hbM, hF9⟩ := lop2_g hF
          have v15 : ∀ i : Nat, i ≠ 58 → V15 i = V14 i := fun i hi => by rw [← e15, up2_c _ _ hi]
          have key : ∀ (f g : Nat) (i acc : Int), 0 ≤ i → lop2 f bX i acc t → lop2 g bM i acc (b, X) → t = b := by
            intro f
            induction f with
            | zero => intro g i acc _ hx; exact False.elim hx
            | succ f ih =>
              intro g i acc hi hx hm
              cases g with
              | zero => exact False.elim hm
              | succ g =>
                rw [lop2_s hbX] at hx
                rw [lop2_s hbM] at hm
                obtain ⟨d, ed, -, hx⟩ := rdb_g hx
                rw [v15 124 (by decide), hM.1] at ed
                by_cases gd : c ≤ i
                · rw [if_pos (by omega)] at hx
                  rw [if_pos gd] at hm
                  simp only [rtn, Prod.mk.injEq] at hm
                  have hx : t = acc := hx
                  rw [hx, hm.1]
                · rw [if_neg (by omega)] at hx
                  rw [if_neg gd] at hm
                  obtain ⟨p, ep, hx⟩ := rdb_g hx
                  obtain ⟨p2, ep2, -, hm⟩ := rdb_g hm
                  have hx := jnk_d hx
                  have hm := jnk_d hm
                  have epp : p = p2 := by
                    rw [← ep, ← ep2, v15 125 (by decide)]
                    exact (hM.2.1 i.toNat (by omega)).1
                  subst epp
                  by_cases gp : ¬ p = z - 10
                  · rw [if_pos gp] at hx hm
                    obtain ⟨o1, eo1, hx⟩ := rdb_g hx
                    obtain ⟨o2, eo2, hm⟩ := rdb_g hm
                    rw [← eo1] at hx
                    rw [← eo2] at hm
                    exact ih g (i + 1) _ (by omega) hx hm
                  · rw [if_neg gp] at hx hm
                    obtain ⟨o1, eo1, hx⟩ := rdb_g hx
                    obtain ⟨o2, eo2, hm⟩ := rdb_g hm
                    rw [← eo1] at hx
                    rw [← eo2] at hm
                    exact ih g (i + 1) _ (by omega) hx hm
          exact key _ _ 0 0 (by omega) ht9 hF9
    · rw [if_neg g9] at hx
      have bm : b = -1 := by
        obtain ⟨y9, k9, -, hm⟩ := hm
        by_cases gy : ¬ y9 = 0
        · rw [if_pos gy] at hm
          obtain ⟨y12, f12, -, hm⟩ := rdb_g hm
          by_cases gl : y12 < y
          · rw [if_pos gl] at hm
            simp only [rtn, Prod.mk.injEq] at hm
            exact hm.1
          · rw [if_neg gl] at hm
            obtain ⟨y14, f14, hm⟩ := rdb_g hm
            rw [if_neg (by omega)] at hm
            simp only [rtn, Prod.mk.injEq] at hm
            exact hm.1
        · rw [if_neg gy] at hm
          obtain ⟨y10, k10, -, hm⟩ := hm
          by_cases g10 : y10 = 0
          · rw [if_pos g10] at hm
            simp only [rtn, Prod.mk.injEq] at hm
            exact hm.1
          · rw [if_neg g10] at hm
            obtain ⟨y12, f12, -, hm⟩ := rdb_g hm
            by_cases gl : y12 < y
            · rw [if_pos gl] at hm
              simp only [rtn, Prod.mk.injEq] at hm
              exact hm.1
            · rw [if_neg gl] at hm
              obtain ⟨y14, f14, hm⟩ := rdb_g hm
              rw [if_neg (by omega)] at hm
              simp only [rtn, Prod.mk.injEq] at hm
              exact hm.1
      simp only [rtn, Prod.mk.injEq] at hx
      rw [hx.1, bm]
  · rw [if_neg g7] at hx
    have bm : b = -1 := by
      obtain ⟨y9, k9, -, hm⟩ := hm
      by_cases gy : ¬ y9 = 0
      · rw [if_pos gy] at hm
        obtain ⟨y12, f12, -, hm⟩ := rdb_g hm
        rw [if_pos (by omega)] at hm
        simp only [rtn, Prod.mk.injEq] at hm
        exact hm.1
      · rw [if_neg gy] at hm
        obtain ⟨y10, k10, -, hm⟩ := hm
        by_cases g10 : y10 = 0
        · rw [if_pos g10] at hm
          simp only [rtn, Prod.mk.injEq] at hm
          exact hm.1
        · rw [if_neg g10] at hm
          obtain ⟨y12, f12, -, hm⟩ := rdb_g hm
          rw [if_pos (by omega)] at hm
          simp only [rtn, Prod.mk.injEq] at hm
          exact hm.1
    simp only [rtn, Prod.mk.injEq] at hx
    rw [hx.1, bm]
