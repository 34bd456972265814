section
-- how long each lasts, one behind the other (own work)
theorem RLq.cg {b l : Nat} {V V2 : Nat → Nat → Int} {N N2 : Nat → Int} (h : RLq b l V N) (hl : l < 4) (hV : ∀ i : Nat, b < i → i ≤ b + 18 → V2 i = V i) (hN : ∀ k : Nat, k < 79 → N2 k = N k) (h2 : V2 b 2 = V b 2) (h3 : V2 b 3 = N2 79) (h4 : V2 b 4 = N2 80) (h79 : 0 ≤ N2 79) (h80 : 0 ≤ N2 80 ∧ N2 80 ≤ 65535) : RLq b l V2 N2 := by
  obtain ⟨a1, a2, a3, a4, a5, a6, a7, a8, a9, a10⟩ := h
  exact ⟨a1.cg (hV _ (by omega) (by omega)) (hV _ (by omega) (by omega)) (fun j hj => hN j (by omega)) (by rw [hN 76 (by decide)]) (by rw [hN 77 (by decide)]), fun p hp => (a2 p hp).cg (hV _ (by omega) (by omega)) (fun j hj => hN j (by omega)) (hN 78 (by decide)), by rw [h2, hN 78 (by decide)]; exact a3, h3, h4, by rw [hN 76 (by decide)]; exact a6, by rw [hN 77 (by decide)]; exact a7, by rw [hN 78 (by decide)]; exact a8, h79, h80⟩
def P9q (V : Nat → Nat → Int) : Prop := (∀ p : Nat, p < 8 → ∀ j : Nat, j < 4 → V (39 + 11 + p) j = V (1 + 11 + p) j) ∧ V 39 2 = V 1 2 ∧ V 39 4 = V 1 4
theorem d_lastsQ {l : Nat} {x a b : Int} {V W J Jm U X : Nat → Nat → Int} {R Rm : Nat → Nat → Nat} (hl : l < 4) (hx0 : 0 ≤ x ∧ x ≤ 24) (h1 : RLz 1 V (W 1)) (h79 : W 1 79 ≤ 9999) (hT : RTx R V W) (hp : P9q V) (h76 : bt (W 1 76) l = 1) (h77 : ¬ bt (W 1 77) l = 1)
    (hx : f_s_lastsWith l x V J R (a, U)) (hm : f_m_lastsWith l x W Jm Rm (b, X)) : a = b ∧ P9q U := by
  unfold f_s_lastsWith at hx
  unfold f_m_lastsWith at hm
  obtain ⟨c, ec, hx⟩ := rdb_g hx
  obtain ⟨s, es, hx⟩ := rdb_g hx
  rw [Int.toNat_natCast] at ec es
  obtain ⟨V3, k3, -, hx⟩ := hx
  obtain ⟨z4, V4, k4, -, hx⟩ := hx
  obtain ⟨z5, e5, hx⟩ := rdb_g hx
  obtain ⟨V6, e6, hx⟩ := rdb_g hx
  obtain ⟨_, -, -, hm⟩ := rdb_g hm
  obtain ⟨_, -, -, hm⟩ := rdb_g hm
  obtain ⟨W3, f3, hm⟩ := rdb_g hm
  obtain ⟨y4, f4, -, hm⟩ := rdb_g hm
  obtain ⟨y5, f5, -, hm⟩ := rdb_g hm
  obtain ⟨y6, k6, hm⟩ := hm
  have k6 := q_min k6
  obtain ⟨W8, f8, hm⟩ := rdb_g hm
  rw [show ((l : Int) + 4).toNat = 4 + l by omega] at f5 f8
  rw [Int.toNat_natCast] at f4
  obtain ⟨c1, c2, c3⟩ := q_copyP1 (c := c) (s := s) (by omega) k3
  have hPl := h1.1 l hl
  rw [es] at hPl
  obtain ⟨p0, p1, p2, p3, p4, p5, p6, p7, p8, p9, p10, p11, p12, p13⟩ := hPl
  obtain ⟨-, u4⟩ := q_sWet k4 (by rw [c2 2 (by decide)]; exact p10) (by rw [c2 1 (by decide)]; exact p9) (by omega)
  rw [c2 1 (by decide), c2 2 (by decide)] at u4
  have w31 : W3 1 = W 1 := by rw [← f3]; exact cpN_n (by decide)
  rw [w31] at f4 f5
  have ew : min (V s 2 + x) (V s 1) = y6 := by rw [k6, ← f4, ← f5, p1, p2, Int.min_comm]
  rw [ew] at u4
  have yr : 0 ≤ y6 ∧ y6 ≤ 24 := by omega
  have v4 : ∀ i : Nat, i ≠ c → V4 i = V3 i := fun i hi => by rw [u4, up2_c _ _ hi]
  have v4c : V4 c = up1 (V3 c) 2 y6 := by rw [u4, up2_row]
  have v6 : ∀ i : Nat, i ≠ 39 → V6 i = V4 i := fun i hi => by rw [← e6, up2_c _ _ hi]
  have v639 : V6 39 = up1 (V4 39) 3 z5 := by rw [← e6, up2_row]
  have o6 : ∀ i : Nat, i ≠ 39 → i ≠ c → i ≠ c + 1 → V6 i = V i := fun i i1 i2 i3 => by rw [v6 i i1, v4 i i2, c1 i i2 i3]
  have o639 : V4 39 = V 39 := by rw [v4 39 (by omega), c1 39 (by omega) (by omega)]
  have ez5 : z5 = W 1 79 := by
    rw [← e5, v4 1 (by omega), c1 1 (by omega) (by omega)]
    exact h1.2.2.2.1
  have x8 : W8 1 = up1 (W 1) (4 + l) y6 := by rw [← f8, up2_row, w31]
  have xo : ∀ k : Nat, k ≠ 4 + l → W8 1 k = W 1 k := fun k hk => by rw [x8, up1_of hk]
  have w8 : ∀ i : Nat, i ≠ 1 → i ≠ 2 → W8 i = W i := fun i i1 i2 => by rw [← f8, up2_c _ _ i1, ← f3]; exact cpN_n i2
  have hR6 : RLq 39 l V6 (W8 1) := by
    obtain ⟨a1, a2, a3, a4, a5, a6, a7, a8, a9, a10⟩ := h1
    refine ⟨?_, fun p hpp => ?_, ?_, ?_, ?_, by rw [xo 76 (by omega)]; exact a6, by rw [xo 77 (by omega)]; exact a7, by rw [xo 78 (by omega)]; exact a8, by rw [xo 79 (by omega)]; exact a9, by rw [xo 80 (by omega)]; exact a10⟩
    · rw [ec]
      have g6 : ∀ j : Nat, j < 8 → j ≠ 2 → V6 c j = V s j := fun j hj j2 => by rw [v6 c (by omega), v4c, up1_of j2, c2 j hj]
      have g62 : V6 c 2 = y6 := by rw [v6 c (by omega), v4c, up1_at]
      unfold RPl dedX
      rw [g6 0 (by decide) (by decide), g6 1 (by decide) (by decide), g62, g6 3 (by decide) (by decide), g6 4 (by decide) (by decide), g6 5 (by decide) (by decide), g6 6 (by decide) (by decide), g6 7 (by decide) (by decide), xo 76 (by omega), xo 77 (by omega), xo l (by omega), xo (8 + l) (by omega), xo (12 + l) (by omega), xo (16 + l) (by omega), xo (20 + l) (by omega), x8, up1_at]
      refine ⟨p0, p1, rfl, p3, p4, p5, fun j hj => ?_, p7, p8, p9, yr, p11, p12, p13⟩
      rw [v6 (c + 1) (by omega), v4 (c + 1) (by omega), c3 j hj, up1_of (by omega)]
      exact p6 j hj
    · have k := a2 p hpp
      have hq2 := hp.1 p hpp
      unfold RPe at k ⊢
      rw [o6 _ (by omega) (by omega) (by omega), hq2 0 (by decide), hq2 1 (by decide), hq2 2 (by decide), hq2 3 (by decide), xo 78 (by omega), xo (52 + p) (by omega), xo (60 + p) (by omega), xo (68 + p) (by omega)]
      exact k
    · rw [v639, up1_of (by decide), o639, hp.2.1, xo 78 (by omega)]; exact a3
    · rw [v639, up1_at, xo 79 (by omega)]; exact ez5
    · rw [v639, up1_of (by decide), o639, hp.2.2, xo 80 (by omega)]; exact a5
  have hT6 : RTx R V6 W8 := hT.cg (fun i i1 i2 i3 => o6 i (by omega) (by omega) (by omega)) (fun i i1 i2 => w8 i (by omega) (by omega))
  have back : ∀ V9 : Nat → Nat → Int, (∀ i : Nat, i ≠ 69 → i ≠ 70 → i ≠ 71 → i ≠ c → i ≠ c + 1 → i ≠ 39 → V9 i = V6 i) → V9 39 2 = V6 39 2 → V9 39 4 = V6 39 4 → P9q V9 := fun V9 g1 g2 g4 => by
    refine ⟨fun p hpp j hj => ?_, ?_, ?_⟩
    · rw [g1 _ (by omega) (by omega) (by omega) (by omega) (by omega) (by omega), g1 (1 + 11 + p) (by omega) (by omega) (by omega) (by omega) (by omega) (by omega), o6 _ (by omega) (by omega) (by omega), o6 (1 + 11 + p) (by omega) (by omega) (by omega)]
      exact hp.1 p hpp j hj
    · rw [g2, g1 1 (by omega) (by omega) (by omega) (by omega) (by omega) (by omega), v639, up1_of (by decide), o639, o6 1 (by omega) (by omega) (by omega)]
      exact hp.2.1
    · rw [g4, g1 1 (by omega) (by omega) (by omega) (by omega) (by omega) (by omega), v639, up1_of (by decide), o639, o6 1 (by omega) (by omega) (by omega)]
      exact hp.2.2
  obtain ⟨bX, hbX, hx9⟩ := lop2_g hx
  obtain ⟨bM, hbM, hm9⟩ := lop2_g hm
  have key : ∀ (n m : Nat) (z : Int) (V9 W9 : Nat → Nat → Int), 0 ≤ z ∧ z ≤ 60 → RLq 39 l V9 (W9 1) → RTx R V9 W9 → W9 1 79 ≤ 9999 + z → bt (W9 1 76) l = 1 → ¬ bt (W9 1 77) l = 1 → (∀ i : Nat, i ≠ 69 → i ≠ 70 → i ≠ 71 → i ≠ c → i ≠ c + 1 → i ≠ 39 → V9 i = V6 i) → V9 39 2 = V6 39 2 → V9 39 4 = V6 39 4 → lop2 n bX z V9 (a, U) → lop2 m bM z W9 (b, X) → a = b ∧ P9q U := by
    intro n
    induction n with
    | zero => intro m z V9 W9 _ _ _ _ _ _ _ _ _ hx; exact False.elim hx
    | succ n ih =>
      intro m z V9 W9 hz r1 r2 r3 r4 r5 g1 g2 g4 hx hm
      cases m with
      | zero => exact False.elim hm
      | succ m =>
        rw [lop2_s hbX] at hx
        rw [lop2_s hbM] at hm
        by_cases g : 60 ≤ z
        · rw [if_pos g] at hx hm
          obtain ⟨_, -, hm⟩ := rdb_g hm
          simp only [rtn, Prod.mk.injEq] at hx hm
          rw [hx.1, hm.1, hx.2]
          exact ⟨by omega, back V9 g1 g2 g4⟩
        · rw [if_neg g] at hx hm
          obtain ⟨V10, k10, -, hx⟩ := hx
          obtain ⟨_, -, -, hm⟩ := rdb_g hm
          obtain ⟨_, -, -, hm⟩ := rdb_g hm
          obtain ⟨W10, j10, -, hm⟩ := hm
          obtain ⟨d1, -, d2, ⟨d3, d4⟩, d5, -⟩ := d_endQ (Or.inr (Or.inr rfl)) hl r1 r2 r4 r5 k10 j10
          rw [ec] at d5
          obtain ⟨z61, e61, hx⟩ := rdb_g hx
          obtain ⟨z62, e62, hx⟩ := rdb_g hx
          obtain ⟨V11, e11, hx⟩ := rdb_g hx
          obtain ⟨z64, k64, -, hx⟩ := hx
          obtain ⟨y11, k11, -, hm⟩ := hm
          have q64 := q_sDead k64
          have q11 := q_mLives k11
          have v11c : V11 c = V10 c := by rw [← e11, up2_c _ _ (by omega)]
          have v11o : ∀ i : Nat, i ≠ 39 → V11 i = V10 i := fun i hi => by rw [← e11, up2_c _ _ hi]
          have v1139 : V11 39 = up1 (V10 39) 3 z62 := by rw [← e11, up2_row]
          have v1039 : V10 39 = V9 39 := d5 39 (by omega) (by omega) (by omega) (by omega) (by omega)
          have g1' : ∀ i : Nat, i ≠ 69 → i ≠ 70 → i ≠ 71 → i ≠ c → i ≠ c + 1 → i ≠ 39 → V11 i = V6 i := fun i i1 i2 i3 i4 i5 i6 => by rw [v11o i i6, d5 i i1 i2 i3 i4 i5, g1 i i1 i2 i3 i4 i5 i6]
          have g2' : V11 39 2 = V6 39 2 := by rw [v1139, up1_of (by decide), v1039, g2]
          have g4' : V11 39 4 = V6 39 4 := by rw [v1139, up1_of (by decide), v1039, g4]
          have hd := d1.1
          rw [ec] at hd
          have hd8 := hd.2.2.2.2.2.2.2.2.1
          have hd0 : bt (W10 1 76) l = V10 c 0 := hd.1.symm
          rw [v11c] at q64
          have c0 : V10 c 0 = bt (W10 1 76) l := hd.1
          have t76 : bt (W10 1 76) l = 1 := by
            have e1 : bt (W9 1 76) l = V9 c 0 := by
              have k := r1.1.1
              rw [ec] at k
              exact k.symm
            have e2 : W10 1 76 = W9 1 76 := by
              rcases (show l = 0 ∨ l = 1 ∨ l = 2 ∨ l = 3 by omega) with rfl | rfl | rfl | rfl <;> exact k_dries (by decide) j10 76 (by decide) (by decide)
            rw [e2]
            exact r4
          by_cases gd : dedX (V10 c)
          · have e64 : z64 = 1 := by
              rcases q64 with ⟨q, -⟩ | ⟨-, q⟩
              · exact q
              · exact absurd gd q
            have e11' : y11 = 0 := by
              rcases q11 with ⟨-, q⟩ | ⟨q, -⟩
              · exact absurd (hd8.mpr gd) q.2
              · exact q
            rw [if_neg (by omega)] at hx
            rw [if_neg (fun hh => hh e11')] at hm
            obtain ⟨_, -, hm⟩ := rdb_g hm
            simp only [rtn, Prod.mk.injEq] at hx hm
            rw [hx.1, hm.1, hx.2]
            exact ⟨rfl, back V11 g1' g2' g4'⟩
          · have e64 : z64 = 0 := by
              rcases q64 with ⟨-, q⟩ | ⟨q, -⟩
              · exact absurd q gd
              · exact q
            have n77 : ¬ bt (W10 1 77) l = 1 := fun hh => gd (hd8.mp hh)
            have e11' : ¬ y11 = 0 := by
              rcases q11 with ⟨q, -⟩ | ⟨-, q⟩
              · omega
              · exact absurd ⟨⟨by omega, by omega, t76⟩, n77⟩ q
            rw [if_pos e64] at hx
            rw [if_pos e11'] at hm
            obtain ⟨_, -, -, hm⟩ := rdb_g hm
            obtain ⟨_, -, -, hm⟩ := rdb_g hm
            obtain ⟨y16, f16, hm⟩ := rdb_g hm
            obtain ⟨y17, f17, hm⟩ := rdb_g hm
            obtain ⟨W18, f18, hm⟩ := rdb_g hm
            have h0 := d1.2.2.2.2.2.2.2.2.1
            have hw : wr (W10 1 79 + 1) = W10 1 79 + 1 := wr_id ⟨by omega, by omega⟩
            have ey17 : y17 = W10 1 79 + 1 := by rw [← f17, ← f16]; exact hw
            have ez62 : z62 = y17 := by
              rw [← e62, ← e61, ey17, d1.2.2.2.1]
              exact hw
            have w18 : ∀ i : Nat, i ≠ 1 → W18 i = W10 i := fun i hi => by rw [← f18, up2_c _ _ hi]
            have w181 : W18 1 = up1 (W10 1) 79 y17 := by rw [← f18, up2_row]
            have w18o : ∀ k : Nat, k ≠ 79 → W18 1 k = W10 1 k := fun k hk => by rw [w181, up1_of hk]
            have w1879 : W18 1 79 = y17 := by rw [w181, up1_at]
            refine ih m (z + 1) V11 W18 (by omega) ?_ (d2.cg (fun i i1 i2 i3 => v11o i (by omega)) (fun i i1 i2 => w18 i (by omega))) (by rw [w1879]; omega) (by rw [w18o 76 (by decide)]; exact t76) (by rw [w18o 77 (by decide)]; exact n77) g1' g2' g4' hx hm
            refine d1.cg hl (fun i i1 i2 => v11o i (by omega)) (fun k hk => w18o k (by omega)) (by rw [v1139, up1_of (by decide)]) (by rw [v1139, up1_at, w1879]; exact ez62) (by rw [v1139, up1_of (by decide), w18o 80 (by decide)]; exact d1.2.2.2.2.1) (by rw [w1879]; omega) (by rw [w18o 80 (by decide)]; exact d1.2.2.2.2.2.2.2.2.2)
  have r86 : bt (W8 1 76) l = 1 := by rw [xo 76 (by omega)]; exact h76
  have r87 : ¬ bt (W8 1 77) l = 1 := by rw [xo 77 (by omega)]; exact h77
  exact key _ _ 0 V6 W8 (by omega) hR6 hT6 (by rw [xo 79 (by omega)]; omega) r86 r87 (fun i _ _ _ _ _ _ => rfl) rfl rfl hx9 hm9
end
section
-- a rota walked; answers: rota (own work)
theorem d_drawL {b : Nat} {a z : Int} {Vx Jx Vm Jm Ux Um : Nat → Nat → Int} {Rx Rm : Nat → Nat → Nat} (hb : isLa b) (hR : RLz b Vx (Vm 1)) (hT : RTx Rx Vx Vm) (hx : f_s_draw b Vx Jx Rx (a, Ux)) (hm : f_m_draws Vm Jm Rm (z, Um)) :
    a = z ∧ RLz b Ux (Um 1) ∧ RTx Rx Ux Um ∧ (∀ k : Nat, k ≠ 80 → Um 1 k = Vm 1 k) ∧ (∀ i : Nat, i ≠ 1 → Um i = Vm i) ∧ ∀ i : Nat, i ≠ b → Ux i = Vx i := by
  have bb := isLa_b hb
  have hR0 := hR
  obtain ⟨hPl, hPe, hn, hd, hx4, hs76, hs77, hs78, h79, h80⟩ := hR
  obtain ⟨e1, e2⟩ := q_sDraw hx (by rw [hx4]; exact h80)
  obtain ⟨e3, e4⟩ := q_mDraw hm h80
  rw [hx4] at e1 e2
  subst e2 e4
  refine ⟨by rw [e1, e3], hR0.cg (fun i i1 i2 => up2_c _ _ (by omega)) (fun k hk => up2_n _ _ (Or.inr (by omega))) (up2_n _ _ (Or.inr (by decide))) ?_ ?_ ?_ ?_, ?_, fun k hk => up2_n _ _ (Or.inr hk), fun i hi => up2_c _ _ hi, fun i hi => up2_c _ _ hi⟩
  · rw [up2_n _ _ (Or.inr (by decide)), up2_n _ _ (Or.inr (by decide))]; exact hd
  · rw [up2_s, up2_s]
  · rw [up2_n _ _ (Or.inr (by decide))]; exact h79
  · rw [up2_s]; exact drx_r _
  · exact hT.cg (fun i i1 i2 i3 => up2_c _ _ (by omega)) (fun i i1 i2 => up2_c _ _ (by omega))
theorem k_waters {p l : Nat} {V J X : Nat → Nat → Int} {R : Nat → Nat → Nat} (h : f_m_waters (p : Int) (l : Int) V J R X) : ∀ k : Nat, k ≠ 4 + l → k ≠ 68 + p → k ≠ 20 + l → X 1 k = V 1 k := by
  unfold f_m_waters at h
  obtain ⟨g, V1, -, F1, -, h⟩ := h
  obtain ⟨_, -, -, h⟩ := rdb_g h
  obtain ⟨_, -, -, h⟩ := rdb_g h
  obtain ⟨w, -, h⟩ := h
  obtain ⟨V6, e6, h⟩ := rdb_g h
  obtain ⟨z7, e7, h⟩ := rdb_g h
  obtain ⟨z8, e8, h⟩ := rdb_g h
  obtain ⟨V9, e9, h⟩ := rdb_g h
  obtain ⟨_, -, h⟩ := rdb_g h
  obtain ⟨_, -, h⟩ := rdb_g h
  obtain ⟨V12, e12, h⟩ := rdb_g h
  obtain ⟨_, -, h⟩ := rdb_g h
  obtain ⟨_, -, h⟩ := rdb_g h
  obtain ⟨_, -, h⟩ := rdb_g h
  obtain ⟨V16, e16, h⟩ := rdb_g h
  obtain ⟨z17, e17, h⟩ := rdb_g h
  obtain ⟨z18, e18, h⟩ := rdb_g h
  obtain ⟨V19, e19, h⟩ := rdb_g h
  rw [show ((l : Int) + 4).toNat = 4 + l by omega] at e6
  rw [show ((p : Int) + 68).toNat = 68 + p by omega] at e7 e9
  have n19 : ∀ k : Nat, k ≠ 4 + l → k ≠ 68 + p → V19 1 k = V 1 k := fun k k1 k2 => by
    rw [← e19, up2_c _ _ (by decide), ← e16, up2_c _ _ (by decide), ← e12, up2_c _ _ (by decide), ← e9, up2_n _ _ (Or.inr k2), ← e6, up2_n _ _ (Or.inr k1), F1.rw 1 (by decide) (by decide)]
  by_cases g1 : g ≤ 0
  · rw [if_pos g1] at h
    have h : X = V19 := h
    rw [h]; exact fun k k1 k2 _ => n19 k k1 k2
  · rw [if_neg g1] at h
    obtain ⟨z21, -, h⟩ := rdb_g h
    by_cases g2 : z21 = (-2)
    · rw [if_pos g2] at h
      have h : X = V19 := h
      rw [h]; exact fun k k1 k2 _ => n19 k k1 k2
    · rw [if_neg g2] at h
      obtain ⟨_, -, h⟩ := rdb_g h
      obtain ⟨V24, e24, h⟩ := rdb_g h
      have h : X = V24 := h
      rw [h]
      exact fun k k1 k2 k3 => by rw [← e24, up2_n _ _ (Or.inr (by omega))]; exact n19 k k1 k2
set_option maxRecDepth 100000 in
theorem d_walk {l : Nat} {a c : Int} {V W J Jm U X : Nat → Nat → Int} {R Rm : Nat → Nat → Nat} (hl : l < 4) (hR : RLz 39 V (W 1)) (hT : RTx R V W) (h76 : bt (W 1 76) l = 1) (h77 : ¬ bt (W 1 77) l = 1) (h79 : W 1 79 ≤ 9915) (hc : V 124 1 = c ∧ W 0 46 = c) (hA : ∀ j : Nat, (j : Int) < c → V 125 j = W 30 j ∧ (W 30 j = -1 ∨ (0 ≤ W 30 j ∧ W 30 j < 8 ∧ bt (W 1 78) (W 30 j) = 1)))
    (hx : f_s_walk 39 (l : Int) V J R (a, U)) (hm : f_m_goesByRota (l : Int) W Jm Rm X) : a = X 0 49 ∧ U (39 + 3 + 2 * l) 2 = X 0 50 := by
  unfold f_s_walk at hx
  unfold f_m_goesByRota at hm
  obtain ⟨W1, f1, hm⟩ := rdb_g hm
  obtain ⟨W2, f2, hm⟩ := rdb_g hm
  have w2 : ∀ i : Nat, i ≠ 0 → i ≠ 2 → W2 i = W i := fun i i1 i2 => by rw [← f2, up2_c _ _ i1, ← f1, cpN_n i2]
  have w20 : ∀ k : Nat, k ≠ 49 → W2 0 k = W 0 k := fun k hk => by rw [← f2, up2_n _ _ (Or.inr hk), ← f1, cpN_n (by decide)]
  have w249 : W2 0 49 = -2 := by rw [← f2, up2_s]
  obtain ⟨bX, hbX, hx9⟩ := lop2_g hx
  obtain ⟨bM, hbM, hm9⟩ := lop2_g hm
  have out : ∀ V9 : Nat → Nat → Int, (rdb (V9 1 (((l : Int) + 4).toNat)) fun z744 => fct (0 ≤ z744 ∧ z744 ≤ 24) <| rdb (up2 V9 0 50 z744) fun V745 => rdb (cpN V745 2 1 81) fun V746 => rtn V746) X → X 0 49 = V9 0 49 ∧ X 0 50 = V9 1 (4 + l) := by
    intro V9 h
    obtain ⟨t, et, -, h⟩ := rdb_g h
    obtain ⟨V10, e10, h⟩ := rdb_g h
    obtain ⟨V11, e11, h⟩ := rdb_g h
    have h : X = V11 := h
    rw [show ((l : Int) + 4).toNat = 4 + l by omega] at et
    rw [h, ← e11, cpN_n (by decide), ← e10]
    exact ⟨by rw [up2_n _ _ (Or.inr (by decide))], by rw [up2_s, et]⟩
  have key : ∀ (n m : Nat) (z : Int) (V9 W9 : Nat → Nat → Int), 0 ≤ z → RLz 39 V9 (W9 1) → RTx R V9 W9 → bt (W9 1 76) l = 1 → ¬ bt (W9 1 77) l = 1 → W9 1 79 ≤ 9915 + z → W9 1 78 = W 1 78 → (V9 124 1 = c ∧ W9 0 46 = c) → (V9 125 = V 125 ∧ W9 30 = W 30) → W9 0 49 = -2 → lop2 n bX z V9 (a, U) → lop2 m bM z W9 X → a = X 0 49 ∧ U (39 + 3 + 2 * l) 2 = X 0 50 := by
    intro n
    induction n with
    | zero => intro m z V9 W9 _ _ _ _ _ _ _ _ _ _ hx; exact False.elim hx
    | succ n ih =>
      intro m z V9 W9 hz r1 r2 r76 r77 r79 r78 rc rA r49 hx hm
      cases m with
      | zero => exact False.elim hm
      | succ m =>
        rw [lop2_s hbX] at hx
        rw [lop2_s hbM] at hm
        obtain ⟨t1, e1, tr1, hx⟩ := rdb_g hx
        obtain ⟨u1, g1, -, hm⟩ := rdb_g hm
        have et1 : t1 = c := by rw [← e1]; exact rc.1
        have eu1 : u1 = c := by rw [← g1]; exact rc.2
        have hm := jnk_d hm
        by_cases gz : c ≤ z
        · rw [if_pos (by omega)] at hx hm
          simp only [rtn, Prod.mk.injEq] at hx
          obtain ⟨o1, o2⟩ := out W9 hm
          rw [hx.1, hx.2, o1, o2, r49]
          exact ⟨rfl, (r1.1 l hl).2.2.1⟩
        · rw [if_neg (by omega)] at hx hm
          obtain ⟨y, hy, -, hm⟩ := hm
          have hy := q_mLives hy
          have hy0 : ¬ y = 0 := fun hh => hy.off hh ⟨⟨by omega, by omega, r76⟩, r77⟩
          rw [if_neg hy0] at hm
          obtain ⟨_, -, -, hm⟩ := rdb_g hm
          obtain ⟨_, -, -, hm⟩ := rdb_g hm
          obtain ⟨q, eq, hx⟩ := rdb_g hx
          obtain ⟨q2, eq2, -, hm⟩ := rdb_g hm
          obtain ⟨ha1, ha2⟩ := hA z.toNat (by omega)
          rw [rA.1] at eq
          rw [rA.2] at eq2
          have eqq : q2 = q := by rw [← eq, ← eq2, ha1]
          rw [eqq] at hm
          rw [← ha1, eq] at ha2
          obtain ⟨Va, ka, Fa, hx⟩ := hx
          -- behind the giving
          have aft : ∀ (Wa : Nat → Nat → Int), RLz 39 Va (Wa 1) → RTx R Va Wa → bt (Wa 1 76) l = 1 → ¬ bt (Wa 1 77) l = 1 → Wa 1 79 = W9 1 79 → Wa 1 78 = W9 1 78 → (Wa 0 46 = W9 0 46 ∧ Wa 0 49 = W9 0 49) → Wa 30 = W9 30 →
              (calVM 36893488147419103232 Wa (f_m_draws Wa Jm Rm) fun z755 V755 => jnk (fun (z756 : Int) => calUM 7253591811175922467340288 V755 (f_m_dries (l : Int) z756 V755 Jm Rm) fun V758 => calR (f_m_lives (l : Int) V758 Jm Rm) fun z759 => fct (0 ≤ z759 ∧ z759 ≤ 1) <| jnk (fun (V764 : Nat → Nat → Int) => rdb (V764 1 79) fun z765 => rdb (wr (z765 + 1)) fun z766 => rdb (up2 V764 1 79 z766) fun V767 => lop2 m bM (z + 1) V767) fun jf764 => (if ¬ z759 = 0 then rdb (V758 1 (((l : Int) + 12).toNat)) fun z770 => fct (0 ≤ z770 ∧ z770 ≤ 8) <| rdb (V758 1 (((l : Int) + 16).toNat)) fun z771 => fct (0 ≤ z771 ∧ z771 ≤ 8) <| jf764 V758 else rdb (up2 V758 0 49 z) fun V772 => jf764 V772)) fun jf757 => (if 5 ≤ z755 then jf757 0 else jf757 1)) X → a = X 0 49 ∧ U (39 + 3 + 2 * l) 2 = X 0 50 := by
            intro Wa s1 s2 s76 s77 s79 s78 s0 s30 hm
            obtain ⟨d, Vb, kb, Fb, hx⟩ := hx
            obtain ⟨d2, Wb, jb, Gb, hm⟩ := hm
            obtain ⟨x1, x2, x3, x4, x5, x6⟩ := d_drawL (Or.inr (Or.inr rfl)) s1 s2 kb jb
            subst x1
            have hx := jnk_if hx
            have hm := jnk_if hm
            obtain ⟨Vc, kc, Fc, hx⟩ := hx
            obtain ⟨Wc, jc, Gc, hm⟩ := hm
            obtain ⟨d1, -, d2', ⟨d3, d4⟩, d5⟩ := d_endL (Or.inr (Or.inr rfl)) hl x2 x3 (by rw [x4 76 (by decide)]; exact s76) (by rw [x4 77 (by decide)]; exact s77) kc jc
            obtain ⟨t2, et2, hx⟩ := rdb_g hx
            obtain ⟨t3, et3, hx⟩ := rdb_g hx
            obtain ⟨Vd, ed, hx⟩ := rdb_g hx
            obtain ⟨cc, ecc, hx⟩ := rdb_g hx
            rw [Int.toNat_natCast] at ecc
            obtain ⟨dd, hdd, -, hx⟩ := hx
            have hdd := q_sDead hdd
            obtain ⟨v, hv, -, hm⟩ := hm
            have hv := q_mLives hv
            have hm := jnk_d hm
            have vdc : Vd cc = Vc cc := by rw [← ed, up2_c _ _ (by omega)]
            have vdo : ∀ i : Nat, i ≠ 39 → Vd i = Vc i := fun i hi => by rw [← ed, up2_c _ _ hi]
            have vd39 : Vd 39 = up1 (Vc 39) 3 t3 := by rw [← ed, up2_row]
            rw [vdc] at hdd
            have hP := d1.1 l hl
            rw [ecc] at hP
            have hd8 := hP.2.2.2.2.2.2.2.2.1
            have t76 : bt (Wc 1 76) l = 1 := by rw [k_dries hl jc 76 (by decide) (by decide), x4 76 (by decide)]; exact s76
            have h0 := d1.2.2.2.2.2.2.2.2.1
            have e79 : Wc 1 79 = W9 1 79 := by rw [d4, x4 79 (by decide), s79]
            have ew : wr (Wc 1 79 + 1) = Wc 1 79 + 1 := wr_id ⟨by omega, by omega⟩
            have et3' : t3 = Wc 1 79 + 1 := by rw [← et3, ← et2, d1.2.2.2.1]; exact ew
            by_cases gd : dedX (Vc cc)
            · have dd1 : dd = 1 := by
                rcases hdd with ⟨k, -⟩ | ⟨-, k⟩
                · exact k
                · exact absurd gd k
              have v0 : v = 0 := by
                rcases hv with ⟨-, k⟩ | ⟨k, -⟩
                · exact absurd (hd8.mpr gd) k.2
                · exact k
              rw [if_neg (by omega)] at hx
              rw [if_neg (fun hh => hh v0)] at hm
              simp only [rtn, Prod.mk.injEq] at hx
              obtain ⟨We, fe, hm⟩ := rdb_g hm
              obtain ⟨p1, fp1, hm⟩ := rdb_g hm
              obtain ⟨p2, fp2, hm⟩ := rdb_g hm
              obtain ⟨Wf, ff, hm⟩ := rdb_g hm
              -- one round more: it is dead
              have wf0 : Wf 0 = up1 (Wc 0) 49 z := by rw [← ff, up2_c _ _ (by decide), ← fe, up2_row]
              have wf1 : ∀ k : Nat, k ≠ 79 → Wf 1 k = Wc 1 k := fun k hk => by rw [← ff, up2_n _ _ (Or.inr hk), ← fe, up2_c _ _ (by decide)]
              have fin : X 0 49 = Wf 0 49 ∧ X 0 50 = Wf 1 (4 + l) := by
                cases m with
                | zero => exact False.elim hm
                | succ m =>
                  rw [lop2_s hbM] at hm
                  obtain ⟨u2, g2, -, hm⟩ := rdb_g hm
                  have hm := jnk_d hm
                  by_cases gu : u2 ≤ z + 1
                  · rw [if_pos gu] at hm
                    exact out Wf hm
                  · rw [if_neg gu] at hm
                    obtain ⟨y2, hy2, -, hm⟩ := hm
                    have hy2 := q_mLives hy2
                    have y20 : y2 = 0 := by
                      rcases hy2 with ⟨-, k⟩ | ⟨k, -⟩
                      · have k2 := k.2
                        rw [wf1 77 (by decide)] at k2
                        exact absurd (hd8.mpr gd) k2
                      · exact k
                    rw [if_pos y20] at hm
                    exact out Wf hm
              rw [hx.1, hx.2, fin.1, fin.2, wf0, up1_at, wf1 (4 + l) (by omega), ecc, vdc]
              exact ⟨rfl, hP.2.2.1⟩
            · have dd0 : dd = 0 := by
                rcases hdd with ⟨-, k⟩ | ⟨k, -⟩
                · exact absurd k gd
                · exact k
              have n77 : ¬ bt (Wc 1 77) l = 1 := fun hh => gd (hd8.mp hh)
              have v1 : ¬ v = 0 := by
                rcases hv with ⟨k, -⟩ | ⟨-, k⟩
                · omega
                · exact absurd ⟨⟨by omega, by omega, t76⟩, n77⟩ k
              rw [if_pos dd0] at hx
              rw [if_pos v1] at hm
              obtain ⟨_, -, -, hm⟩ := rdb_g hm
              obtain ⟨_, -, -, hm⟩ := rdb_g hm
              obtain ⟨p1, fp1, hm⟩ := rdb_g hm
              obtain ⟨p2, fp2, hm⟩ := rdb_g hm
              obtain ⟨Wf, ff, hm⟩ := rdb_g hm
              have ep2 : p2 = Wc 1 79 + 1 := by rw [← fp2, ← fp1]; exact ew
              have wfo : ∀ i : Nat, i ≠ 1 → Wf i = Wc i := fun i hi => by rw [← ff, up2_c _ _ hi]
              have wf1 : Wf 1 = up1 (Wc 1) 79 p2 := by rw [← ff, up2_row]
              have wfk : ∀ k : Nat, k ≠ 79 → Wf 1 k = Wc 1 k := fun k hk => by rw [wf1, up1_of hk]
              have wf79 : Wf 1 79 = p2 := by rw [wf1, up1_at]
              have c124 : ∀ i : Nat, i = 124 ∨ i = 125 → Vd i = V9 i := fun i hi => by
                rw [vdo i (by omega), show Vc i = Vb i from funext fun k => Fc i k (by omega), x6 i (by omega)]
                exact funext fun k => Fa i k (by omega)
              have w30 : Wf 30 = W9 30 := by rw [wfo 30 (by decide), Gc.rw 30 (by decide) (by decide), x5 30 (by decide), s30]
              have w0 : ∀ q : Nat, q = 46 ∨ q = 49 → Wf 0 q = Wa 0 q := fun q hq => by
                rw [wfo 0 (by decide)]
                rcases hq with rfl | rfl
                · rw [Gc.fl 46 (by decide), x5 0 (by decide)]
                · rw [Gc.fl 49 (by decide), x5 0 (by decide)]
              refine ih m (z + 1) Vd Wf (by omega) ?_ (d2'.cg (fun i i1 i2 i3 => vdo i (by omega)) (fun i i1 i2 => wfo i (by omega))) (by rw [wfk 76 (by decide)]; exact t76) (by rw [wfk 77 (by decide)]; exact n77) (by rw [wf79, ep2, e79]; omega) (by rw [wfk 78 (by decide), d3, x4 78 (by decide), s78, r78]) ⟨by rw [c124 124 (Or.inl rfl)]; exact rc.1, by rw [w0 46 (Or.inl rfl), s0.1]; exact rc.2⟩ ⟨by rw [c124 125 (Or.inr rfl)]; exact rA.1, by rw [w30]; exact rA.2⟩ (by rw [w0 49 (Or.inr rfl), s0.2]; exact r49) hx hm
              exact d1.cg (fun i i1 i2 => vdo i (by omega)) (fun k hk => wfk k (by omega)) (by rw [vd39, up1_of (by decide)]) (by rw [vd39, up1_at, wf79, et3', ep2]) (by rw [vd39, up1_of (by decide), wfk 80 (by decide)]; exact d1.2.2.2.2.1) (by rw [wf79, ep2]; omega) (by rw [wfk 80 (by decide)]; exact d1.2.2.2.2.2.2.2.2.2)
          by_cases gq : q = (-1)
          · rw [if_pos gq] at hm
            -- nobody
            have eVa : Va = V9 := by
              unfold f_s_giveTo at ka
              obtain ⟨p, hp, -, ka⟩ := ka
              have hp := q_sPerson hp
              have p0 : p = 0 := by
                rcases hp with ⟨-, k⟩ | ⟨k, -⟩
                · omega
                · exact k
              rw [if_pos p0] at ka
              exact ka
            exact aft W9 (by rw [eVa]; exact r1) (by rw [eVa]; exact r2) r76 r77 rfl rfl ⟨rfl, rfl⟩ rfl hm
          · rw [if_neg gq] at hm
            have hq8 := ha2.resolve_left gq
            obtain ⟨p, rfl⟩ : ∃ p : Nat, q = (p : Int) := ⟨q.toNat, by omega⟩
            obtain ⟨Wa, ja, Ga, hm9⟩ := hm
            obtain ⟨g1', -, g2', g3', g4'⟩ := d_giveL (Or.inr (Or.inr rfl)) (by omega) hl r1 r2 (by rw [r78]; exact hq8.2.2) r76 r77 ka ja
            have kw := k_waters ja
            exact aft Wa g1' g2' (by rw [kw 76 (by omega) (by omega) (by omega)]; exact r76) (by rw [kw 77 (by omega) (by omega) (by omega)]; exact r77) g4' g3' ⟨Ga.fl 46 (by decide), Ga.fl 49 (by decide)⟩ (Ga.rw 30 (by decide) (by decide)) hm9
  exact key _ _ 0 V W2 (by omega) (by rw [w2 1 (by decide) (by decide)]; exact hR) (hT.cg (fun _ _ _ _ => rfl) (fun i i1 i2 => w2 i (by omega) (by omega))) (by rw [w2 1 (by decide) (by decide)]; exact h76) (by rw [w2 1 (by decide) (by decide)]; exact h77) (by rw [w2 1 (by decide) (by decide)]; omega) (by rw [w2 1 (by decide) (by decide)]) ⟨hc.1, by rw [w20 46 (by decide)]; exact hc.2⟩ ⟨rfl, w2 30 (by decide) (by decide)⟩ w249 hx9 hm9
end
section
-- the first side's asker as a function: it comes to just this (own work)
theorem calR_e {α ρ : Type} {C : α → Prop} {k : α → ρ → Prop} {z : α} (hC : C = rtn z) : calR C k = k z := by
  subst hC
  funext r
  exact propext ⟨fun ⟨z2, h, hk⟩ => by
    have h : z2 = z := h
    rw [← h]; exact hk, fun hk => ⟨z, rfl, hk⟩⟩
theorem calVX_e {α ρ : Type} {P : Nat → Nat → Prop} {V U : Nat → Nat → Int} {C : α × (Nat → Nat → Int) → Prop} {k : α → (Nat → Nat → Int) → ρ → Prop} {z : α} (hC : C = rtn (z, U)) (hb : FB P V U) : calVX P V C k = k z U := by
  subst hC
  funext r
  exact propext ⟨fun ⟨z2, U2, h, _, hk⟩ => by
    have h : (z2, U2) = (z, U) := h
    cases h; exact hk, fun hk => ⟨z, U, rfl, hb, hk⟩⟩
theorem calUX_e {ρ : Type} {P : Nat → Nat → Prop} {V U : Nat → Nat → Int} {C : (Nat → Nat → Int) → Prop} {k : (Nat → Nat → Int) → ρ → Prop} (hC : C = rtn U) (hb : FB P V U) : calUX P V C k = k U := by
  subst hC
  funext r
  exact propext ⟨fun ⟨U2, h, _, hk⟩ => by
    have h : U2 = U := h
    rw [← h]; exact hk, fun hk => ⟨U, rfl, hb, hk⟩⟩
theorem fct_e {ρ : Type} {p : Prop} {k : ρ → Prop} (hp : p) : fct p k = k := funext fun _ => propext ⟨fun h => h.2, fun h => ⟨hp, h⟩⟩
theorem lop3_x {α β γ ρ δ : Type} {n : Nat} {b : (α → β → γ → ρ → Prop) → α → β → γ → ρ → Prop} {x : α} {y : β} {z : γ} {Q : δ → Prop} {F : δ → ρ} (h : ∀ b2, b2 = b → ∃ U, lop3 n b2 x y z = rtn (F U) ∧ Q U) : ∃ U, lop3 n b x y z = rtn (F U) ∧ Q U := h b rfl
theorem lop2_x {α β ρ δ : Type} {n : Nat} {b : (α → β → ρ → Prop) → α → β → ρ → Prop} {x : α} {y : β} {Q : δ → Prop} {F : δ → ρ} (h : ∀ b2, b2 = b → ∃ U, lop2 n b2 x y = rtn (F U) ∧ Q U) : ∃ U, lop2 n b x y = rtn (F U) ∧ Q U := h b rfl
def psh (x : Int) (s : List Int) : List Int := if s.length < 40 then x :: s else s
def pp1 : List Int → Int
  | [] => 0
  | x :: _ => x
def pp2 : List Int → List Int
  | [] => []
  | _ :: t => t
def zStk (f : Nat → Int) : List Int → Prop
  | [] => True
  | x :: t => (f t.length = x ∧ R32 x) ∧ zStk f t
theorem zStk.up {f : Nat → Int} {k : Nat} {v : Int} : ∀ {s : List Int}, zStk f s → s.length ≤ k → zStk (up1 f k v) s
  | [], _, _ => trivial
  | x :: t, h, hk => by
    rw [List.length_cons] at hk
    exact ⟨⟨by rw [up1_n _ _ (by omega)]; exact h.1.1, h.1.2⟩, zStk.up h.2 (by omega)⟩
/-- the asker holds the stack s; all else is as it was -/
def zAs (V0 V : Nat → Nat → Int) (s : List Int) : Prop := (V 69 2 = (s.length : Int) ∧ s.length ≤ 40) ∧ V 69 3 = 0 ∧ zStk (V 71) s ∧ ∀ i : Nat, i ≠ 69 → i ≠ 71 → V i = V0 i
theorem zAs.fb {V0 V U : Nat → Nat → Int} {s : List Int} (h : zAs V0 V s) (hU : ∀ i : Nat, i ≠ 69 → i ≠ 71 → U i = V0 i) : FB (fun i _ : Nat => (69 ≤ i ∧ i ≤ 71)) V U := fun i k hi => by
  rw [hU i (by omega) (by omega), h.2.2.2 i (by omega) (by omega)]
theorem pp_r {f : Nat → Int} {s : List Int} (h : zStk f s) : R32 (pp1 s) := by
  cases s with
  | nil => exact ⟨by decide, by decide⟩
  | cons x t => exact h.1.2
theorem a_pop {V0 V J : Nat → Nat → Int} {R : Nat → Nat → Nat} {s : List Int} (h : zAs V0 V s) : ∃ U : Nat → Nat → Int, f_s_pop V J R = rtn (pp1 s, U) ∧ zAs V0 U (pp2 s) := by
  obtain ⟨⟨h1, h2⟩, h3, h4, h5⟩ := h
  cases s with
  | nil =>
    refine ⟨V, ?_, ⟨⟨h1, h2⟩, h3, h4, h5⟩⟩
    rw [List.length_nil] at h1
    unfold f_s_pop
    show (if V 69 2 ≤ 0 then _ else _) = _
    rw [if_pos (by omega)]
    rfl
  | cons x t =>
    rw [List.length_cons] at h1 h2
    have e : (V 69 2 - 1).toNat = t.length := by omega
    refine ⟨up2 V 69 2 (V 69 2 - 1), ?_, ⟨⟨?_, ?_⟩, ?_, ?_, fun i i1 i2 => ?_⟩⟩
    · unfold f_s_pop
      show (if V 69 2 ≤ 0 then _ else (if V 69 2 ≤ 40 then rtn (up2 V 69 2 (V 69 2 - 1) 71 (V 69 2 - 1).toNat, up2 V 69 2 (V 69 2 - 1)) else _)) = _
      rw [if_neg (by omega), if_pos (by omega), up2_c _ _ (by decide), e, h4.1.1]
      rfl
    · rw [up2_s]
      show _ = (t.length : Int)
      omega
    · show t.length ≤ 40
      omega
    · rw [up2_n _ _ (Or.inr (by decide))]; exact h3
    · rw [up2_c _ _ (by decide)]; exact h4.2
    · rw [up2_c _ _ i1]; exact h5 i i1 i2
theorem a_push {V0 V J : Nat → Nat → Int} {R : Nat → Nat → Nat} {s : List Int} {x : Int} (h : zAs V0 V s) (hx : R32 x) : ∃ U : Nat → Nat → Int, f_s_push x V J R = rtn U ∧ zAs V0 U (psh x s) := by
  obtain ⟨⟨h1, h2⟩, h3, h4, h5⟩ := h
  unfold psh
  by_cases g : s.length < 40
  · rw [if_pos g]
    have e : (V 69 2).toNat = s.length := by omega
    refine ⟨up2 (up2 V 71 (V 69 2).toNat x) 69 2 (V 69 2 + 1), ?_, ⟨⟨?_, ?_⟩, ?_, ?_, fun i i1 i2 => ?_⟩⟩
    · unfold f_s_push
      show (if V 69 2 < 0 then _ else (if 40 ≤ V 69 2 then _ else rtn (up2 (up2 V 71 (V 69 2).toNat x) 69 2 (V 69 2 + 1)))) = _
      rw [if_neg (by omega), if_neg (by omega)]
    · rw [up2_s, List.length_cons]; omega
    · rw [List.length_cons]; omega
    · rw [up2_n _ _ (Or.inr (by decide)), up2_n _ _ (Or.inl (by decide))]; exact h3
    · rw [up2_c _ _ (by decide), up2_row, e]
      exact ⟨⟨by rw [up1_s], hx⟩, h4.up (Nat.le_refl _)⟩
    · rw [up2_c _ _ i1, up2_c _ _ i2]; exact h5 i i1 i2
  · rw [if_neg g]
    refine ⟨V, ?_, ⟨⟨h1, h2⟩, h3, h4, h5⟩⟩
    unfold f_s_push
    show (if V 69 2 < 0 then _ else (if 40 ≤ V 69 2 then _ else _)) = _
    rw [if_neg (by omega), if_pos (by omega)]
def ltS (row : Nat → Int) (w : Int) : Int := if w < 0 then 0 else if 26 ≤ w then 0 else row w.toNat
def rkS (op x y : Int) : Int := if op = 2 then wr (x + y) else if op = 3 then wr (x - y) else if op = 4 then wr (x * y) else if op = 5 then iDiv x y else if op = 6 then iRem x y else if op = 7 then (if y ≤ x then 0 else 1) else if op = 8 then (if x ≤ y then 0 else 1) else if op = 9 then (if x = y then 1 else 0) else iRem x y
theorem rkS_r (op x y : Int) : R32 (rkS op x y) := by
  unfold rkS
  split
  · exact wr_r _
  split
  · exact wr_r _
  split
  · exact wr_r _
  split
  · exact xi_r _
  split
  · exact xi_r _
  split
  · split <;> exact ⟨by decide, by decide⟩
  split
  · split <;> exact ⟨by decide, by decide⟩
  split
  · split <;> exact ⟨by decide, by decide⟩
  · exact xi_r _
theorem ltS_r {row : Nat → Int} {w : Int} (h : ∀ k : Nat, k < 26 → R32 (row k)) : R32 (ltS row w) := by
  unfold ltS
  split
  · exact ⟨by decide, by decide⟩
  split
  · exact ⟨by decide, by decide⟩
  · exact h _ (by omega)
/-- what a program comes to -/
def evS (len : Int) (cd row : Nat → Int) (to : Int) : Nat → Int → List Int → Int
  | 0, _, s => pp1 s
  | n + 1, z, s =>
    if z < 0 then pp1 s else if to ≤ z then pp1 s else if len ≤ z then pp1 s
    else if iAnd (cd z.toNat) 15 = 0 then evS len cd row to n (z + 1) (psh (iShr (cd z.toNat) 4) s)
    else if iAnd (cd z.toNat) 15 = 1 then evS len cd row to n (z + 1) (psh (ltS row (iShr (cd z.toNat) 4)) s)
    else if iAnd (cd z.toNat) 15 = 10 then evS len cd row to n (z + 1) (psh (wr (-(pp1 s) + 1)) (pp2 s))
    else if iAnd (cd z.toNat) 15 = 11 then (if pp1 s = 0 then evS len cd row to n (iShr (cd z.toNat) 4) (psh (pp1 s) (pp2 s)) else evS len cd row to n (z + 1) (pp2 s))
    else if iAnd (cd z.toNat) 15 = 12 then (if pp1 s = 0 then evS len cd row to n (z + 1) (pp2 s) else evS len cd row to n (iShr (cd z.toNat) 4) (psh (pp1 s) (pp2 s)))
    else if pp1 s = 0 ∧ ¬ (iAnd (cd z.toNat) 15 = 2 ∨ iAnd (cd z.toNat) 15 = 3 ∨ iAnd (cd z.toNat) 15 = 4 ∨ iAnd (cd z.toNat) 15 = 7 ∨ iAnd (cd z.toNat) 15 = 8 ∨ iAnd (cd z.toNat) 15 = 9) then 0
    else evS len cd row to n (z + 1) (psh (rkS (iAnd (cd z.toNat) 15) (pp1 (pp2 s)) (pp1 s)) (pp2 (pp2 s)))
/-- one is refused -/
theorem a_rk {V J : Nat → Nat → Int} {R : Nat → Nat → Nat} {op x y : Int} : f_s_reckon op x y V J R = if y = 0 ∧ ¬ (op = 2 ∨ op = 3 ∨ op = 4 ∨ op = 7 ∨ op = 8 ∨ op = 9) then rtn (0, up2 V 69 3 1) else rtn (rkS op x y, V) := by
  unfold f_s_reckon rkS
  simp only [rdb]
  by_cases h2 : op = 2
  · rw [if_pos h2, if_neg (fun h => h.2 (by omega)), if_pos h2]
  rw [if_neg h2, if_neg h2]
  by_cases h3 : op = 3
  · rw [if_pos h3, if_neg (fun h => h.2 (by omega)), if_pos h3]
  rw [if_neg h3, if_neg h3]
  by_cases h4 : op = 4
  · rw [if_pos h4, if_neg (fun h => h.2 (by omega)), if_pos h4]
  rw [if_neg h4, if_neg h4]
  by_cases h5 : op = 5
  · rw [if_pos h5, if_pos h5]
    by_cases hy : y = 0
    · rw [if_neg (fun h => h hy), if_pos ⟨hy, by omega⟩]
    · rw [if_pos hy, if_neg (fun h => hy h.1)]
  rw [if_neg h5, if_neg h5]
  by_cases h6 : op = 6
  · rw [if_pos h6, if_pos h6]
    by_cases hy : y = 0
    · rw [if_neg (fun h => h hy), if_pos ⟨hy, by omega⟩]
    · rw [if_pos hy, if_neg (fun h => hy h.1)]
  rw [if_neg h6, if_neg h6]
  by_cases h7 : op = 7
  · rw [if_pos h7, if_neg (c := y = 0 ∧ ¬ (op = 2 ∨ op = 3 ∨ op = 4 ∨ op = 7 ∨ op = 8 ∨ op = 9)) (fun h => h.2 (by omega)), if_pos h7]
    split <;> rfl
  rw [if_neg h7, if_neg h7]
  by_cases h8 : op = 8
  · rw [if_pos h8, if_neg (c := y = 0 ∧ ¬ (op = 2 ∨ op = 3 ∨ op = 4 ∨ op = 7 ∨ op = 8 ∨ op = 9)) (fun h => h.2 (by omega)), if_pos h8]
    split <;> rfl
  rw [if_neg h8, if_neg h8]
  by_cases h9 : op = 9
  · rw [if_pos h9, if_neg (c := y = 0 ∧ ¬ (op = 2 ∨ op = 3 ∨ op = 4 ∨ op = 7 ∨ op = 8 ∨ op = 9)) (fun h => h.2 (by omega)), if_pos h9]
    by_cases hy : x = y
    · rw [if_neg (fun h => h hy), if_pos hy]
    · rw [if_pos hy, if_neg hy]
  rw [if_neg h9, if_neg h9]
  by_cases hy : y = 0
  · rw [if_neg (fun h => h hy), if_pos ⟨hy, by omega⟩]
  · rw [if_pos hy, if_pos h5, if_neg (fun h => hy h.1)]
end
section
-- the first side's asker as a function: programs, clauses (own work)
theorem a_run {t : Nat} {V0 J : Nat → Nat → Int} {R : Nat → Nat → Nat} {f e : Int} (ht : isTx t) (hl : 0 ≤ V0 t 1 ∧ V0 t 1 ≤ 200) (hr : ∀ k : Nat, k < 26 → R32 (V0 70 k)) : ∃ U : Nat → Nat → Int, f_s_run t f e V0 J R = rtn (evS (V0 t 1) (V0 (t + 1)) (V0 70) e 200 f [], U) ∧ (R32 (evS (V0 t 1) (V0 (t + 1)) (V0 70) e 200 f []) ∧ ∀ i : Nat, i ≠ 69 → i ≠ 71 → U i = V0 i) := by
  have t1 : (t ≠ 69 ∧ t ≠ 71) ∧ t + 1 ≠ 69 ∧ t + 1 ≠ 71 := by rcases ht with rfl | rfl | rfl | rfl | rfl | rfl <;> decide
  unfold f_s_run
  simp only [rdb, jnk]
  refine lop3_x fun b hb => ?_
  have key : ∀ (n : Nat) (z : Int) (V : Nat → Nat → Int) (s : List Int), n ≤ 200 → zAs V0 V s → ∃ U : Nat → Nat → Int, lop3 (n + 2) b (200 - (n : Int)) z V = rtn (evS (V0 t 1) (V0 (t + 1)) (V0 70) e n z s, U) ∧ (R32 (evS (V0 t 1) (V0 (t + 1)) (V0 70) e n z s) ∧ ∀ i : Nat, i ≠ 69 → i ≠ 71 → U i = V0 i) := by
    intro n
    induction n with
    | zero =>
      intro z V s hn hA
      obtain ⟨U, e1, e2⟩ := a_pop (J := J) (R := R) hA
      refine ⟨U, ?_, pp_r hA.2.2.1, e2.2.2.2⟩
      rw [lop3_s hb, if_pos (by omega), fct_e (by rw [hA.2.1]; decide), if_pos hA.2.1, calVX_e e1 (hA.fb e2.2.2.2)]
      rfl
    | succ n ih =>
      intro z V s hn hA
      have hA0 := hA
      obtain ⟨-, h3, h4, h5⟩ := hA0
      have eV : V (t + 1) = V0 (t + 1) := h5 _ t1.2.1 t1.2.2
      have eV1 : V t = V0 t := h5 _ t1.1.1 t1.1.2
      have eL : V 70 = V0 70 := h5 _ (by decide) (by decide)
      obtain ⟨U, e1, e2⟩ := a_pop (J := J) (R := R) hA
      have out : (fct (0 ≤ V 69 3 ∧ V 69 3 ≤ 1) <| if V 69 3 = 0 then calVX (fun i _ : Nat => (69 ≤ i ∧ i ≤ 71)) V (f_s_pop V J R) fun z V => rtn (z, V) else rtn (0, V)) = rtn (pp1 s, U) := by
        rw [fct_e (by rw [h3]; decide), if_pos h3, calVX_e e1 (hA.fb e2.2.2.2)]
      rw [lop3_s hb, if_neg (by omega)]
      rw [show (200 - ((n + 1 : Nat) : Int)) + 1 = 200 - (n : Int) by omega]
      unfold evS
      by_cases g1 : z < 0
      · rw [if_pos g1, if_pos g1]
        exact ⟨U, out, pp_r h4, e2.2.2.2⟩
      rw [if_neg g1, if_neg g1]
      by_cases g2 : e ≤ z
      · rw [if_pos g2, if_pos g2]
        exact ⟨U, out, pp_r h4, e2.2.2.2⟩
      rw [if_neg g2, if_neg g2, eV1, fct_e hl]
      by_cases g3 : V0 t 1 ≤ z
      · rw [if_pos g3, if_pos g3]
        exact ⟨U, out, pp_r h4, e2.2.2.2⟩
      rw [if_neg g3, if_neg g3, fct_e (by rw [h3]; decide), if_neg (fun h => h h3), eV, fct_e (iAnd_leB _ (by decide))]
      clear out
      generalize hop : iAnd (V0 (t + 1) z.toNat) 15 = op
      have hw : R32 (iShr (V0 (t + 1) z.toNat) 4) := xi_r _
      generalize iShr (V0 (t + 1) z.toNat) 4 = w at hw
      by_cases o0 : op = 0
      · rw [if_neg (fun h => h o0), if_pos o0]
        obtain ⟨Y, f1, f2⟩ := a_push (J := J) (R := R) hA hw
        rw [calUX_e f1 (hA.fb f2.2.2.2)]
        exact ih _ _ _ (by omega) f2
      rw [if_pos o0, if_neg o0]
      by_cases o1 : op = 1
      · rw [if_neg (fun h => h o1), if_pos o1]
        have go : ∀ v : Int, R32 v → v = ltS (V0 70) w → ∃ U : Nat → Nat → Int, (calUX (fun i _ : Nat => (69 ≤ i ∧ i ≤ 71)) V (f_s_push v V J R) fun V1445 => lop3 (n + 2) b (200 - (n : Int)) (z + 1) V1445) = rtn (evS (V0 t 1) (V0 (t + 1)) (V0 70) e n (z + 1) (psh (ltS (V0 70) w) s), U) ∧ (R32 (evS (V0 t 1) (V0 (t + 1)) (V0 70) e n (z + 1) (psh (ltS (V0 70) w) s)) ∧ ∀ i : Nat, i ≠ 69 → i ≠ 71 → U i = V0 i) := by
          intro v hv ev
          subst ev
          obtain ⟨Y, f1, f2⟩ := a_push (J := J) (R := R) hA hv
          rw [calUX_e f1 (hA.fb f2.2.2.2)]
          exact ih _ _ _ (by omega) f2
        by_cases w1 : w < 0
        · rw [if_pos w1]
          exact go _ ⟨by decide, by decide⟩ (by unfold ltS; rw [if_pos w1])
        rw [if_neg w1]
        by_cases w2 : 26 ≤ w
        · rw [if_pos w2]
          exact go _ ⟨by decide, by decide⟩ (by unfold ltS; rw [if_neg w1, if_pos w2])
        rw [if_neg w2, eL]
        exact go _ (hr _ (by omega)) (by unfold ltS; rw [if_neg w1, if_neg w2])
      rw [if_pos o1, if_neg o1]
      by_cases o10 : op = 10
      · rw [if_neg (fun h => h o10), if_pos o10, calVX_e e1 (hA.fb e2.2.2.2)]
        obtain ⟨Y, f1, f2⟩ := a_push (J := J) (R := R) e2 (wr_r (-(pp1 s) + 1))
        rw [calUX_e f1 (e2.fb f2.2.2.2)]
        exact ih _ _ _ (by omega) f2
      rw [if_pos o10, if_neg o10]
      by_cases o11 : op = 11
      · rw [if_pos o11, if_pos o11, calVX_e e1 (hA.fb e2.2.2.2)]
        by_cases x0 : pp1 s = 0
        · rw [if_neg (fun h => h x0), if_neg (by decide), if_pos x0]
          obtain ⟨Y, f1, f2⟩ := a_push (J := J) (R := R) e2 (pp_r h4)
          rw [calUX_e f1 (e2.fb f2.2.2.2)]
          exact ih _ _ _ (by omega) f2
        · rw [if_pos x0, if_pos (by decide), if_neg x0]
          exact ih _ _ _ (by omega) e2
      rw [if_neg o11, if_neg o11]
      by_cases o12 : op = 12
      · rw [if_neg (fun h => h o12), if_pos o12, calVX_e e1 (hA.fb e2.2.2.2)]
        by_cases x0 : pp1 s = 0
        · rw [if_neg (fun h => h x0), if_pos (by decide), if_pos x0]
          exact ih _ _ _ (by omega) e2
        · rw [if_pos x0, if_neg (by decide), if_neg x0]
          obtain ⟨Y, f1, f2⟩ := a_push (J := J) (R := R) e2 (pp_r h4)
          rw [calUX_e f1 (e2.fb f2.2.2.2)]
          exact ih _ _ _ (by omega) f2
      rw [if_pos o12, if_neg o12, calVX_e e1 (hA.fb e2.2.2.2)]
      obtain ⟨Y, f1, f2⟩ := a_pop (J := J) (R := R) e2
      rw [calVX_e f1 (e2.fb f2.2.2.2)]
      by_cases gy : pp1 s = 0 ∧ ¬ (op = 2 ∨ op = 3 ∨ op = 4 ∨ op = 7 ∨ op = 8 ∨ op = 9)
      · rw [if_pos gy]
        have e3 : f_s_reckon op (pp1 (pp2 s)) (pp1 s) Y J R = rtn (0, up2 Y 69 3 1) := by rw [a_rk, if_pos gy]
        have fbY : FB (fun i _ : Nat => (69 ≤ i ∧ i ≤ 71)) Y (up2 Y 69 3 1) := fun i k hi => by rw [up2_c _ _ (by omega)]
        rw [calVX_e e3 fbY]
        obtain ⟨Z, z1, z2⟩ : ∃ Z : Nat → Nat → Int, f_s_push 0 (up2 Y 69 3 1) J R = rtn Z ∧ (Z 69 3 = 1 ∧ ∀ i : Nat, i ≠ 69 → i ≠ 71 → Z i = V0 i) := by
          have l1 := f2.1
          unfold f_s_push
          by_cases l40 : 40 ≤ up2 Y 69 3 1 69 2
          · refine ⟨up2 Y 69 3 1, ?_, up2_s _ _ _ _, fun i i1 i2 => by rw [up2_c _ _ i1]; exact f2.2.2.2 i i1 i2⟩
            show (if up2 Y 69 3 1 69 2 < 0 then _ else (if 40 ≤ up2 Y 69 3 1 69 2 then _ else _)) = _
            rw [if_neg (by rw [up2_n _ _ (Or.inr (by decide))]; omega), if_pos l40]
          · refine ⟨up2 (up2 (up2 Y 69 3 1) 71 (up2 Y 69 3 1 69 2).toNat 0) 69 2 (up2 Y 69 3 1 69 2 + 1), ?_, by rw [up2_n _ _ (Or.inr (by decide)), up2_n _ _ (Or.inl (by decide)), up2_s], fun i i1 i2 => by rw [up2_c _ _ i1, up2_c _ _ i2, up2_c _ _ i1]; exact f2.2.2.2 i i1 i2⟩
            show (if up2 Y 69 3 1 69 2 < 0 then _ else (if 40 ≤ up2 Y 69 3 1 69 2 then _ else rtn (up2 (up2 (up2 Y 69 3 1) 71 (up2 Y 69 3 1 69 2).toNat 0) 69 2 (up2 Y 69 3 1 69 2 + 1)))) = _
            rw [if_neg (by rw [up2_n _ _ (Or.inr (by decide))]; omega), if_neg l40]
        have fbZ : FB (fun i _ : Nat => (69 ≤ i ∧ i ≤ 71)) (up2 Y 69 3 1) Z := fun i k hi => by rw [z2.2 i (by omega) (by omega), up2_c _ _ (by omega), f2.2.2.2 i (by omega) (by omega)]
        rw [calUX_e z1 fbZ]
        refine ⟨Z, ?_, ⟨by decide, by decide⟩, z2.2⟩
        have zf : ¬ Z 69 3 = 0 := by rw [z2.1]; decide
        rw [show n + 2 = (n + 1) + 1 from rfl, lop3_s hb]
        have end0 : (fct (0 ≤ Z 69 3 ∧ Z 69 3 ≤ 1) <| if Z 69 3 = 0 then calVX (fun i _ : Nat => (69 ≤ i ∧ i ≤ 71)) Z (f_s_pop Z J R) fun z V => rtn (z, V) else rtn (0, Z)) = rtn (0, Z) := by
          rw [fct_e (by rw [z2.1]; decide), if_neg zf]
        have eZ1 : Z t = V0 t := z2.2 _ t1.1.1 t1.1.2
        by_cases q1 : (200 : Int) ≤ 200 - (n : Int)
        · rw [if_pos q1]; exact end0
        rw [if_neg q1]
        by_cases q2 : z + 1 < 0
        · rw [if_pos q2]; exact end0
        rw [if_neg q2]
        by_cases q3 : e ≤ z + 1
        · rw [if_pos q3]; exact end0
        rw [if_neg q3, eZ1, fct_e hl]
        by_cases q4 : V0 t 1 ≤ z + 1
        · rw [if_pos q4]; exact end0
        rw [if_neg q4, fct_e (by rw [z2.1]; decide), if_pos zf]
        exact end0
      · rw [if_neg gy]
        have e3 : f_s_reckon op (pp1 (pp2 s)) (pp1 s) Y J R = rtn (rkS op (pp1 (pp2 s)) (pp1 s), Y) := by rw [a_rk, if_neg gy]
        rw [calVX_e e3 (FB.rf _ _)]
        obtain ⟨Z, z1, z2⟩ := a_push (J := J) (R := R) f2 (rkS_r op (pp1 (pp2 s)) (pp1 s))
        rw [calUX_e z1 (f2.fb z2.2.2.2)]
        exact ih _ _ _ (by omega) z2
  refine key 200 f _ [] (by decide) ⟨⟨?_, by decide⟩, ?_, trivial, fun i i1 i2 => ?_⟩
  · rw [up2_n _ _ (Or.inr (by decide)), up2_s]; rfl
  · rw [up2_s]
  · rw [up2_c _ _ i1, up2_c _ _ i1]
/-- what is told by clauses j on -/
def asS (nc len : Int) (cd l2 l3 l4 row : Nat → Int) (lt mo : Int) : Nat → Nat → Int
  | 0, _ => 0
  | n + 1, j => if nc ≤ (j : Int) then 0 else if ¬ l2 j = lt then asS nc len cd l2 l3 l4 row lt mo n (j + 1) else if evS len cd row (l3 (j + 1)) 200 (l4 j) [] = 0 then asS nc len cd l2 l3 l4 row lt mo n (j + 1) else max 0 (min mo (evS len cd row (l4 j) 200 (l3 j) []))
/-- what text t tells by the letters row -/
def asT (V : Nat → Nat → Int) (t : Nat) (lt mo : Int) (row : Nat → Int) : Int := asS (V t 5) (V t 1) (V (t + 1)) (V (t + 2)) (V (t + 3)) (V (t + 4)) row lt mo 14 0
theorem asS_r {nc len : Int} {cd l2 l3 l4 row : Nat → Int} {lt mo : Int} (hmo : 0 ≤ mo) : ∀ n j : Nat, 0 ≤ asS nc len cd l2 l3 l4 row lt mo n j ∧ asS nc len cd l2 l3 l4 row lt mo n j ≤ mo
  | 0, _ => ⟨by unfold asS; omega, by unfold asS; omega⟩
  | n + 1, j => by
    unfold asS
    split
    · omega
    split
    · exact asS_r hmo n (j + 1)
    split
    · exact asS_r hmo n (j + 1)
    · omega
theorem asT_r {V : Nat → Nat → Int} {t : Nat} {lt mo : Int} {row : Nat → Int} (hmo : 0 ≤ mo) : 0 ≤ asT V t lt mo row ∧ asT V t lt mo row ≤ mo := asS_r hmo _ _
theorem a_ask {t : Nat} {V0 J : Nat → Nat → Int} {R : Nat → Nat → Nat} {lt mo : Int} (ht : isTx t) (hl : 0 ≤ V0 t 1 ∧ V0 t 1 ≤ 200) (hc : 0 ≤ V0 t 5 ∧ V0 t 5 ≤ 14) (hq : ∀ j : Nat, 0 ≤ V0 (t + 2) j ∧ V0 (t + 2) j ≤ 65535) (hr : ∀ k : Nat, k < 26 → R32 (V0 70 k)) (hmo : 0 ≤ mo ∧ mo ≤ 999) : ∃ U : Nat → Nat → Int, f_s_ask t lt mo V0 J R = rtn (asT V0 t lt mo (V0 70), U) ∧ ∀ i : Nat, i ≠ 69 → i ≠ 71 → U i = V0 i := by
  have t1 : (t ≠ 69 ∧ t ≠ 71) ∧ (t + 1 ≠ 69 ∧ t + 1 ≠ 71) ∧ (t + 2 ≠ 69 ∧ t + 2 ≠ 71) ∧ (t + 3 ≠ 69 ∧ t + 3 ≠ 71) ∧ t + 4 ≠ 69 ∧ t + 4 ≠ 71 := by rcases ht with rfl | rfl | rfl | rfl | rfl | rfl <;> decide
  unfold f_s_ask asT
  simp only [rdb]
  refine lop2_x fun b hb => ?_
  have key : ∀ (n j : Nat) (V : Nat → Nat → Int), n + j = 14 → (∀ i : Nat, i ≠ 69 → i ≠ 71 → V i = V0 i) → ∃ U : Nat → Nat → Int, lop2 (n + 2) b (j : Int) V = rtn (asS (V0 t 5) (V0 t 1) (V0 (t + 1)) (V0 (t + 2)) (V0 (t + 3)) (V0 (t + 4)) (V0 70) lt mo n j, U) ∧ ∀ i : Nat, i ≠ 69 → i ≠ 71 → U i = V0 i := by
    intro n
    induction n with
    | zero =>
      intro j V hj hV
      refine ⟨V, ?_, hV⟩
      rw [lop2_s hb, hV t t1.1.1 t1.1.2, fct_e hc, if_pos (by omega)]
      rfl
    | succ n ih =>
      intro j V hj hV
      have e0 : V t = V0 t := hV t t1.1.1 t1.1.2
      have e1 : V (t + 1) = V0 (t + 1) := hV _ t1.2.1.1 t1.2.1.2
      have e2 : V (t + 2) = V0 (t + 2) := hV _ t1.2.2.1.1 t1.2.2.1.2
      have e3 : V (t + 3) = V0 (t + 3) := hV _ t1.2.2.2.1.1 t1.2.2.2.1.2
      have e4 : V (t + 4) = V0 (t + 4) := hV _ t1.2.2.2.2.1 t1.2.2.2.2.2
      have eL : V 70 = V0 70 := hV 70 (by decide) (by decide)
      have j1 : ((j : Int) + 1) = ((j + 1 : Nat) : Int) := by omega
      rw [lop2_s hb, e0, fct_e hc]
      unfold asS
      by_cases g1 : V0 t 5 ≤ (j : Int)
      · rw [if_pos g1, if_pos g1]
        exact ⟨V, rfl, hV⟩
      rw [if_neg g1, if_neg g1, e2, fct_e (hq _), Int.toNat_natCast]
      by_cases g2 : V0 (t + 2) j = lt
      · rw [if_neg (fun h => h g2), if_neg (fun h => h g2), e3, e4, j1, Int.toNat_natCast]
        obtain ⟨U, u1, u2, u3⟩ := a_run (t := t) (V0 := V) (J := J) (R := R) (f := V0 (t + 4) j) (e := V0 (t + 3) (j + 1)) ht (by rw [e0]; exact hl) (by rw [eL]; exact hr)
        have u4 : ∀ i : Nat, i ≠ 69 → i ≠ 71 → U i = V0 i := fun i i1 i2 => (u3 i i1 i2).trans (hV i i1 i2)
        rw [e0, e1, eL] at u1
        rw [calVX_e u1 (fun i k hi => by rw [u3 i (by omega) (by omega)])]
        by_cases g3 : evS (V0 t 1) (V0 (t + 1)) (V0 70) (V0 (t + 3) (j + 1)) 200 (V0 (t + 4) j) [] = 0
        · rw [if_pos g3, if_pos g3]
          exact ih _ _ (by omega) u4
        · rw [if_neg g3, if_neg g3, u4 (t + 3) t1.2.2.2.1.1 t1.2.2.2.1.2, u4 (t + 4) t1.2.2.2.2.1 t1.2.2.2.2.2]
          have f0 : U t = V0 t := u4 t t1.1.1 t1.1.2
          have f1 : U (t + 1) = V0 (t + 1) := u4 _ t1.2.1.1 t1.2.1.2
          have fL : U 70 = V0 70 := u4 70 (by decide) (by decide)
          obtain ⟨Y, y1, y2, y3⟩ := a_run (t := t) (V0 := U) (J := J) (R := R) (f := V0 (t + 3) j) (e := V0 (t + 4) j) ht (by rw [f0]; exact hl) (by rw [fL]; exact hr)
          rw [f0, f1, fL] at y1 y2
          rw [calVX_e y1 (fun i k hi => by rw [y3 i (by omega) (by omega)])]
          rw [fct_e (by omega), fct_e (by omega)]
          exact ⟨Y, rfl, fun i i1 i2 => (y3 i i1 i2).trans (u4 i i1 i2)⟩
      · rw [if_pos g2, if_pos g2, j1]
        exact ih _ _ (by omega) hV
  exact key 14 0 V0 (by decide) (fun _ _ _ => rfl)
end
section
-- the reference's asking is the same function; rows of letters (own work)
theorem ltS_c {r q : Nat → Int} (h : ∀ k : Nat, k < 26 → q k = r k) (w : Int) : ltS q w = ltS r w := by
  unfold ltS
  split
  · rfl
  split
  · rfl
  · exact h _ (by omega)
theorem evS_c {len : Int} {cd r q : Nat → Int} {to : Int} (h : ∀ k : Nat, k < 26 → q k = r k) : ∀ (n : Nat) (z : Int) (s : List Int), evS len cd q to n z s = evS len cd r to n z s
  | 0, _, _ => rfl
  | n + 1, z, s => by
    unfold evS
    rw [ltS_c h]
    simp only [evS_c h n]
theorem asS_c {nc len : Int} {cd l2 l3 l4 r q : Nat → Int} {lt mo : Int} (h : ∀ k : Nat, k < 26 → q k = r k) : ∀ n j : Nat, asS nc len cd l2 l3 l4 q lt mo n j = asS nc len cd l2 l3 l4 r lt mo n j
  | 0, _ => rfl
  | n + 1, j => by
    unfold asS
    rw [evS_c h, evS_c h, asS_c h n]
theorem asT_c {V : Nat → Nat → Int} {t : Nat} {lt mo : Int} {r q : Nat → Int} (h : ∀ k : Nat, k < 26 → q k = r k) : asT V t lt mo q = asT V t lt mo r := asS_c h _ _
theorem asT_v {V U : Nat → Nat → Int} {t : Nat} {lt mo : Int} {r : Nat → Int} (h : ∀ i : Nat, t ≤ i → i ≤ t + 4 → U i = V i) : asT U t lt mo r = asT V t lt mo r := by
  unfold asT
  rw [h t (by omega) (by omega), h (t + 1) (by omega) (by omega), h (t + 2) (by omega) (by omega), h (t + 3) (by omega) (by omega), h (t + 4) (by omega) (by omega)]
/-- texts' clauses, lengths and letters are within their bounds -/
def zLq (V : Nat → Nat → Int) : Prop := ∀ t : Nat, isTx t → (0 ≤ V t 5 ∧ V t 5 ≤ 14) ∧ (0 ≤ V t 1 ∧ V t 1 ≤ 200) ∧ ∀ j : Nat, 0 ≤ V (t + 2) j ∧ V (t + 2) j ≤ 65535
theorem zLq.cg {V U : Nat → Nat → Int} (h : zLq V) (hx : ∀ i : Nat, 61 ≤ i → i ≤ 97 → (i ≤ 65 ∨ 73 ≤ i) → U i = V i) : zLq U := fun t ht => by
  have b := isTx_b ht
  rw [hx (t + 2) (by omega) (by omega) (by omega), hx t (by omega) (by omega) (by omega)]
  exact h t ht
/-- the first side tells asT -/
theorem s_tells {t : Nat} {Vx Jx U : Nat → Nat → Int} {Rx : Nat → Nat → Nat} {lt mo a : Int} {row : Nat → Int} (ht : isTx t) (hq : zLq Vx) (hrow : ∀ k : Nat, k < 26 → Vx 70 k = row k) (hr : ∀ k : Nat, k < 26 → R32 (row k)) (hmo : 0 ≤ mo ∧ mo ≤ 999) (hx : f_s_ask t lt mo Vx Jx Rx (a, U)) : a = asT Vx t lt mo row ∧ ∀ i : Nat, i ≠ 69 → i ≠ 71 → U i = Vx i := by
  obtain ⟨Y, y1, y2⟩ := a_ask (t := t) (V0 := Vx) (J := Jx) (R := Rx) (lt := lt) (mo := mo) ht (hq t ht).2.1 (hq t ht).1 (hq t ht).2.2 (fun k hk => by rw [hrow k hk]; exact hr k hk) hmo
  rw [y1] at hx
  have hx : (a, U) = (asT Vx t lt mo (Vx 70), Y) := hx
  simp only [Prod.mk.injEq] at hx
  exact ⟨hx.1.trans (asT_c hrow), fun i i1 i2 => by rw [hx.2]; exact y2 i i1 i2⟩
/-- the reference tells asT -/
theorem m_tells {t tx : Nat} {Vx Vm Jm X : Nat → Nat → Int} {Rm : Nat → Nat → Nat} {lt mo b : Int} {row : Nat → Int} (ht : isTx t) (htx : tx < 5) (hT : RTz t tx Vx Vm) (hq : zLq Vx) (hF : ∀ i : Nat, i < 13 → row (fc i) = Vm 18 i) (hr : ∀ k : Nat, k < 26 → R32 (row k)) (hmo : 0 ≤ mo ∧ mo ≤ 999) (hm : f_m_byText tx lt mo Vm Jm Rm (b, X)) : b = asT Vx t lt mo row ∧ ∀ i : Nat, i ≠ 17 → X i = Vm i := by
  have bt := isTx_b ht
  have hV : ∀ i : Nat, i ≠ 70 → (fun i : Nat => if i = 70 then row else Vx i) i = Vx i := fun i hi => if_neg hi
  have h70 : (fun i : Nat => if i = 70 then row else Vx i) 70 = row := if_pos rfl
  generalize (fun i : Nat => if i = 70 then row else Vx i) = V at hV h70
  have hT2 : RTz t tx V Vm := hT.cg (fun i k i1 i2 => by rw [hV i (by omega)]) (fun _ _ _ _ => rfl)
  have hq2 : zLq V := hq.cg (fun i i1 i2 i3 => hV i (by omega))
  obtain ⟨Y, y1, y2⟩ := a_ask (t := t) (V0 := V) (J := Vx) (R := Rm) (lt := lt) (mo := mo) ht (hq2 t ht).2.1 (hq2 t ht).1 (hq2 t ht).2.2 (fun k hk => by rw [h70]; exact hr k hk) hmo
  have hx : f_s_ask t lt mo V Vx Rm (asT V t lt mo (V 70), Y) := by rw [y1]; exact rfl
  obtain ⟨e, -, e2⟩ := q_ask ht htx hT2 (fun i hi => by rw [h70]; exact hF i hi) hmo.1 hx hm
  refine ⟨?_, e2⟩
  rw [← e, h70]
  exact asT_v (fun i i1 i2 => hV i (by omega))
/-- the letters of a PLANT on a DAY, of one who gives -/
def rowC (l o s d n p t f y z : Int) : Nat → Int := fun k => if k = 0 then 99 else if k = 3 then d else if k = 5 then f else if k = 11 then l else if k = 13 then n else if k = 14 then o else if k = 15 then p else if k = 18 then s else if k = 19 then t else if k = 22 then iRem d 7 else if k = 24 then y else if k = 25 then z else 0
theorem rowC_r {l o s d n p t f y z : Int} (hl : R32 l) (ho : R32 o) (hs : R32 s) (hd : R32 d) (hn : R32 n) (hp : R32 p) (ht : R32 t) (hf : R32 f) (hy : R32 y) (hz : R32 z) (k : Nat) : R32 (rowC l o s d n p t f y z k) := by
  have h0 : R32 0 := ⟨by decide, by decide⟩
  have h9 : R32 99 := ⟨by decide, by decide⟩
  have hw : R32 (iRem d 7) := xi_r _
  have go : ∀ (c : Prop) [Decidable c] (a b : Int), R32 a → R32 b → R32 (if c then a else b) := fun c _ a b ha hb => by
    split
    · exact ha
    · exact hb
  unfold rowC
  exact go _ _ _ h9 (go _ _ _ hd (go _ _ _ hf (go _ _ _ hl (go _ _ _ hn (go _ _ _ ho (go _ _ _ hp (go _ _ _ hs (go _ _ _ ht (go _ _ _ hw (go _ _ _ hy (go _ _ _ hz h0)))))))))))
theorem rowC_day {r : Nat → Int} {l o s d n p t f y z d2 n2 : Int} (h : ∀ k : Nat, k < 26 → r k = rowC l o s d n p t f y z k) : ∀ k : Nat, k < 26 → dyX r d2 n2 k = rowC l o s d2 n2 p t f y z k := fun k hk => by
  unfold dyX
  by_cases k13 : k = 13
  · subst k13; rw [up1_s]; rfl
  rw [up1_n _ _ k13]
  by_cases k22 : k = 22
  · subst k22; rw [up1_s]; rfl
  rw [up1_n _ _ k22]
  by_cases k3 : k = 3
  · subst k3; rw [up1_s]; rfl
  rw [up1_n _ _ k3, h k hk]
  unfold rowC
  rw [if_neg k3, if_neg k3, if_neg k13, if_neg k13, if_neg k22, if_neg k22]
theorem rowC_by {r : Nat → Int} {l o s d n p t f y z p2 t2 : Int} (h : ∀ k : Nat, k < 26 → r k = rowC l o s d n p t f y z k) : ∀ k : Nat, k < 26 → byX r p2 t2 0 k = rowC l o s d n p2 t2 f y z k := fun k hk => by
  unfold byX
  by_cases k16 : k = 16
  · subst k16; rw [up1_s]; rfl
  rw [up1_n _ _ k16]
  by_cases k19 : k = 19
  · subst k19; rw [up1_s]; rfl
  rw [up1_n _ _ k19]
  by_cases k15 : k = 15
  · subst k15; rw [up1_s]; rfl
  rw [up1_n _ _ k15, h k hk]
  unfold rowC
  rw [if_neg k15, if_neg k15, if_neg k19, if_neg k19]
theorem rowC_look {r : Nat → Int} {l o s d n p t f y z f2 y2 z2 : Int} (h : ∀ k : Nat, k < 26 → r k = rowC l o s d n p t f y z k) : ∀ k : Nat, k < 26 → up1 (up1 (up1 r 5 f2) 24 y2) 25 z2 k = rowC l o s d n p t f2 y2 z2 k := fun k hk => by
  by_cases k25 : k = 25
  · subst k25; rw [up1_s]; rfl
  rw [up1_n _ _ k25]
  by_cases k24 : k = 24
  · subst k24; rw [up1_s]; rfl
  rw [up1_n _ _ k24]
  by_cases k5 : k = 5
  · subst k5; rw [up1_s]; rfl
  rw [up1_n _ _ k5, h k hk]
  unfold rowC
  rw [if_neg k5, if_neg k5, if_neg k24, if_neg k24, if_neg k25, if_neg k25]
/-- what is felt by the reference -/
theorem rowC_fc {l o s d n p t f y z : Int} {F : Nat → Int} (h : F 0 = d ∧ F 1 = iRem d 7 ∧ F 2 = l ∧ F 3 = o ∧ F 4 = f ∧ F 5 = s ∧ F 6 = y ∧ F 7 = z ∧ F 8 = p ∧ F 9 = t ∧ F 10 = n ∧ F 11 = 99 ∧ F 12 = 0) : ∀ i : Nat, i < 13 → rowC l o s d n p t f y z (fc i) = F i := by
  obtain ⟨h0, h1, h2, h3, h4, h5, h6, h7, h8, h9, h10, h11, h12⟩ := h
  intro i hi
  rcases (show i = 0 ∨ i = 1 ∨ i = 2 ∨ i = 3 ∨ i = 4 ∨ i = 5 ∨ i = 6 ∨ i = 7 ∨ i = 8 ∨ i = 9 ∨ i = 10 ∨ i = 11 ∨ i = 12 by omega) with rfl | rfl | rfl | rfl | rfl | rfl | rfl | rfl | rfl | rfl | rfl | rfl | rfl
  · exact h0.symm
  · exact h1.symm
  · exact h2.symm
  · exact h3.symm
  · exact h4.symm
  · exact h5.symm
  · exact h6.symm
  · exact h7.symm
  · exact h8.symm
  · exact h9.symm
  · exact h10.symm
  · exact h11.symm
  · exact h12.symm
end
section
-- sums; listed states with their weights: one more, and what was next is now (own work)
theorem zlop4 {α β γ δ ρ : Type} {n : Nat} {b : (α → β → γ → δ → ρ → Prop) → α → β → γ → δ → ρ → Prop} {x : α} {y : β} {z : γ} {w : δ} {r : ρ} (h : lop4 n b x y z w r) : ∃ b2, b2 = b ∧ lop4 n b2 x y z w r := ⟨b, rfl, h⟩
theorem zlop6 {α β γ δ ε ζ ρ : Type} {n : Nat} {b : (α → β → γ → δ → ε → ζ → ρ → Prop) → α → β → γ → δ → ε → ζ → ρ → Prop} {x : α} {y : β} {z : γ} {w : δ} {v : ε} {u : ζ} {r : ρ} (h : lop6 n b x y z w v u r) : ∃ b2, b2 = b ∧ lop6 n b2 x y z w v u r := ⟨b, rfl, h⟩
def zsm (f : Nat → Int) : Nat → Int
  | 0 => 0
  | n + 1 => zsm f n + f n
theorem sm_c {f g : Nat → Int} : ∀ {n : Nat}, (∀ j : Nat, j < n → f j = g j) → zsm f n = zsm g n
  | 0, _ => rfl
  | n + 1, h => by
    unfold zsm
    rw [sm_c (fun j hj => h j (by omega)), h n (by omega)]
theorem sm_z {f : Nat → Int} : ∀ {n : Nat}, (∀ j : Nat, j < n → f j = 0) → zsm f n = 0
  | 0, _ => rfl
  | n + 1, h => by
    unfold zsm
    rw [sm_z (fun j hj => h j (by omega)), h n (by omega)]
    rfl
theorem sm_a {f g k : Nat → Int} : ∀ {n : Nat}, (∀ j : Nat, j < n → k j = f j + g j) → zsm k n = zsm f n + zsm g n
  | 0, _ => rfl
  | n + 1, h => by
    unfold zsm
    rw [sm_a (f := f) (g := g) (fun j hj => h j (by omega)), h n (by omega)]
    omega
theorem sm_m {f g : Nat → Int} {c : Int} : ∀ {n : Nat}, (∀ j : Nat, j < n → g j = c * f j) → zsm g n = c * zsm f n
  | 0, _ => by unfold zsm; rw [Int.mul_zero]
  | n + 1, h => by
    unfold zsm
    rw [sm_m (f := f) (c := c) (fun j hj => h j (by omega)), h n (by omega), Int.mul_add]
theorem sm_u {f g : Nat → Int} {d : Int} {q : Nat} : ∀ {n : Nat}, q < n → g q = f q + d → (∀ j : Nat, j < n → j ≠ q → g j = f j) → zsm g n = zsm f n + d
  | 0, h, _, _ => by omega
  | n + 1, h, hq, ho => by
    unfold zsm
    by_cases e : q = n
    · subst e
      rw [sm_c (f := g) (g := f) (fun j hj => ho j (by omega) (by omega)), hq]
      omega
    · rw [sm_u (f := f) (d := d) (q := q) (by omega) hq (fun j hj => ho j (by omega)), ho n (by omega) (by omega)]
      omega
theorem sm_n {f : Nat → Int} : ∀ {n : Nat}, (∀ j : Nat, j < n → 0 ≤ f j) → 0 ≤ zsm f n
  | 0, _ => Int.le_refl 0
  | n + 1, h => by
    unfold zsm
    have h1 := sm_n (f := f) (n := n) (fun j hj => h j (by omega))
    have h2 := h n (by omega)
    omega
theorem sm_l {f : Nat → Int} : ∀ {n : Nat}, (∀ j : Nat, j < n → 0 ≤ f j) → ∀ j : Nat, j < n → f j ≤ zsm f n
  | 0, _, j, hj => by omega
  | n + 1, h, j, hj => by
    unfold zsm
    have h1 := sm_n (f := f) (n := n) (fun j hj => h j (by omega))
    have h2 := h n (by omega)
    by_cases e : j = n
    · subst e; omega
    · have h3 := sm_l (f := f) (n := n) (fun j hj => h j (by omega)) j (by omega)
      omega
/-- so many that are apart have so much room -/
theorem zpig : ∀ (n h : Nat) (f : Nat → Nat), (∀ j : Nat, j < h → f j < n) → (∀ i j : Nat, i < h → j < h → f i = f j → i = j) → h ≤ n
  | 0, h, f, hf, _ => by
    rcases Nat.eq_zero_or_pos h with e | e
    · omega
    · have := hf 0 e; omega
  | n + 1, h, f, hf, hi => by
    by_cases g : ∃ q : Nat, q < h ∧ f q = n
    · obtain ⟨q, q1, q2⟩ := g
      have k := zpig n (h - 1) (fun j => if j = q then f (h - 1) else f j) (fun j hj => by
        show (if j = q then f (h - 1) else f j) < n
        by_cases e : j = q
        · rw [if_pos e]
          have a := hf (h - 1) (by omega)
          have b : f (h - 1) ≠ n := fun hh => by
            have := hi (h - 1) q (by omega) q1 (by rw [hh, q2])
            omega
          omega
        · rw [if_neg e]
          have a := hf j (by omega)
          have b : f j ≠ n := fun hh => e (hi j q (by omega) q1 (by rw [hh, q2]))
          omega) (fun i j hi1 hj1 e => by
        have e : (if i = q then f (h - 1) else f i) = (if j = q then f (h - 1) else f j) := e
        by_cases e1 : i = q
        · rw [if_pos e1] at e
          by_cases e2 : j = q
          · rw [e1, e2]
          · rw [if_neg e2] at e
            have := hi (h - 1) j (by omega) (by omega) e
            omega
        · rw [if_neg e1] at e
          by_cases e2 : j = q
          · rw [if_pos e2] at e
            have := hi i (h - 1) (by omega) (by omega) e
            omega
          · rw [if_neg e2] at e
            exact hi i j (by omega) (by omega) e)
      omega
    · have k := zpig n h f (fun j hj => by
        have a := hf j hj
        have b : f j ≠ n := fun hh => g ⟨j, hj, hh⟩
        omega) hi
      omega
/-- the states that have a weight, listed once each -/
def zCl (w st : Nat → Int) (h : Nat) : Prop := (∀ j : Nat, j < h → 0 ≤ st j ∧ st j ≤ 474 ∧ 0 < w (st j).toNat) ∧ (∀ i j : Nat, i < h → j < h → st i = st j → i = j) ∧ ∀ s : Nat, s < 475 → 0 ≤ w s ∧ (w s ≠ 0 → ∃ j : Nat, j < h ∧ st j = (s : Int))
def zLs (w st : Nat → Int) (h : Nat) (L : Nat → Int) : Int := zsm (fun j => w (st j).toNat * L (st j).toNat) h
theorem zCl.nil {w st : Nat → Int} (h : ∀ s : Nat, s < 475 → w s = 0) : zCl w st 0 := ⟨fun j hj => by omega, fun i j hi => by omega, fun s hs => ⟨by rw [h s hs]; decide, fun hh => absurd (h s hs) hh⟩⟩
theorem zCl.room {w st : Nat → Int} {h : Nat} (hC : zCl w st h) {x : Nat} (hx : x < 475) (h0 : w x = 0) : h < 475 := by
  obtain ⟨a, b, c⟩ := hC
  have k := zpig 475 (h + 1) (fun j => if j = h then x else (st j).toNat) (fun j hj => by
    show (if j = h then x else (st j).toNat) < 475
    by_cases e : j = h
    · rw [if_pos e]; exact hx
    · rw [if_neg e]
      have := a j (by omega)
      omega) (fun i j hi hj e => by
    have e : (if i = h then x else (st i).toNat) = (if j = h then x else (st j).toNat) := e
    by_cases e1 : i = h
    · by_cases e2 : j = h
      · omega
      · rw [if_pos e1, if_neg e2] at e
        have := a j (by omega)
        rw [← e, h0] at this
        omega
    · by_cases e2 : j = h
      · rw [if_neg e1, if_pos e2] at e
        have := a i (by omega)
        rw [e, h0] at this
        omega
      · rw [if_neg e1, if_neg e2] at e
        have p := a i (by omega)
        have q := a j (by omega)
        exact b i j (by omega) (by omega) (by omega))
  omega
theorem zCl.h475 {w st : Nat → Int} {h : Nat} (hC : zCl w st h) : h ≤ 475 := zpig 475 h (fun j => (st j).toNat) (fun j hj => by
  have := hC.1 j hj
  show (st j).toNat < 475
  omega) (fun i j hi hj e => by
  have p := hC.1 i hi
  have q := hC.1 j hj
  have e : (st i).toNat = (st j).toNat := e
  exact hC.2.1 i j hi hj (by omega))
/-- more weight for a listed one -/
theorem zCl.more {w st : Nat → Int} {h : Nat} (hC : zCl w st h) {x : Nat} {d : Int} (hx : x < 475) (hd : 0 ≤ d) (h0 : w x ≠ 0) : zCl (up1 w x (w x + d)) st h ∧ ∀ L : Nat → Int, zLs (up1 w x (w x + d)) st h L = zLs w st h L + d * L x := by
  obtain ⟨a, b, c⟩ := hC
  have up : ∀ s : Nat, s < 475 → w s ≤ up1 w x (w x + d) s := fun s hs => by
    by_cases e : s = x
    · subst e; rw [up1_s]; omega
    · rw [up1_n _ _ e]; exact Int.le_refl _
  refine ⟨⟨fun j hj => ?_, b, fun s hs => ⟨?_, fun hh => ?_⟩⟩, fun L => ?_⟩
  · have k := a j hj
    have := up (st j).toNat (by omega)
    exact ⟨k.1, k.2.1, by omega⟩
  · have := up s hs
    have := (c s hs).1
    omega
  · by_cases e : s = x
    · subst e; exact (c s hs).2 h0
    · rw [up1_n _ _ e] at hh; exact (c s hs).2 hh
  · obtain ⟨q, q1, q2⟩ := (c x hx).2 h0
    have qn : (st q).toNat = x := by omega
    refine sm_u (q := q) q1 ?_ (fun j hj hn => ?_)
    · show up1 w x (w x + d) (st q).toNat * L (st q).toNat = w (st q).toNat * L (st q).toNat + d * L x
      rw [qn, up1_s, Int.add_mul]
    · show up1 w x (w x + d) (st j).toNat * L (st j).toNat = w (st j).toNat * L (st j).toNat
      have k := a j hj
      rw [up1_n _ _ (fun e => hn (b j q hj q1 (by omega)))]
/-- a new one -/
theorem zCl.new {w st : Nat → Int} {h : Nat} (hC : zCl w st h) {x : Nat} {d : Int} (hx : x < 475) (hd : 0 < d) (h0 : w x = 0) : zCl (up1 w x d) (up1 st h (x : Int)) (h + 1) ∧ ∀ L : Nat → Int, zLs (up1 w x d) (up1 st h (x : Int)) (h + 1) L = zLs w st h L + d * L x := by
  obtain ⟨a, b, c⟩ := hC
  have ne : ∀ j : Nat, j < h → (st j).toNat ≠ x := fun j hj e => by
    have := a j hj
    rw [e, h0] at this
    omega
  have o : ∀ j : Nat, j < h → up1 st h (x : Int) j = st j := fun j hj => up1_n _ _ (by omega)
  refine ⟨⟨fun j hj => ?_, fun i j hi hj e => ?_, fun s hs => ⟨?_, fun hh => ?_⟩⟩, fun L => ?_⟩
  · by_cases e : j = h
    · subst e
      rw [up1_s, Int.toNat_natCast, up1_s]
      omega
    · have k := a j (by omega)
      rw [o j (by omega), up1_n _ _ (ne j (by omega))]
      exact k
  · by_cases e1 : i = h
    · by_cases e2 : j = h
      · omega
      · rw [e1, up1_s, o j (by omega)] at e
        exact absurd (by omega) (ne j (by omega))
    · by_cases e2 : j = h
      · rw [e2, up1_s, o i (by omega)] at e
        exact absurd (by omega) (ne i (by omega))
      · rw [o i (by omega), o j (by omega)] at e
        exact b i j (by omega) (by omega) e
  · by_cases e : s = x
    · subst e; rw [up1_s]; omega
    · rw [up1_n _ _ e]; exact (c s hs).1
  · by_cases e : s = x
    · subst e; exact ⟨h, by omega, up1_s _ _ _⟩
    · rw [up1_n _ _ e] at hh
      obtain ⟨j, j1, j2⟩ := (c s hs).2 hh
      exact ⟨j, by omega, by rw [o j j1]; exact j2⟩
  · show zsm _ h + up1 w x d (up1 st h (x : Int) h).toNat * L (up1 st h (x : Int) h).toNat = _
    rw [up1_s, Int.toNat_natCast, up1_s]
    rw [sm_c (g := fun j => w (st j).toNat * L (st j).toNat) (fun j hj => by
      show up1 w x d (up1 st h (x : Int) j).toNat * L (up1 st h (x : Int) j).toNat = _
      rw [o j hj, up1_n _ _ (ne j hj)])]
    rfl
theorem zWj {z : Int} (h : R64 z) : wrJ z = z := xj_toInt h
theorem zLs_n {w st : Nat → Int} {h : Nat} (hC : zCl w st h) {L : Nat → Int} (hL : ∀ s : Nat, 0 ≤ L s) : 0 ≤ zLs w st h L := sm_n fun j hj => Int.mul_nonneg (Int.le_of_lt (hC.1 j hj).2.2) (hL _)
/-- no weight is above all of them -/
theorem zLs_l {w st : Nat → Int} {h : Nat} (hC : zCl w st h) (s : Nat) (hs : s < 475) : w s ≤ zLs w st h (fun _ => 1) := by
  by_cases g : w s = 0
  · rw [g]; exact zLs_n hC (fun _ => by decide)
  · obtain ⟨j, j1, j2⟩ := (hC.2.2 s hs).2 g
    have k := sm_l (f := fun j => w (st j).toNat * 1) (n := h) (fun i hi => by
      have := (hC.1 i hi).2.2
      show 0 ≤ w (st i).toNat * 1
      omega) j j1
    have e : (st j).toNat = s := by omega
    have k : w (st j).toNat * 1 ≤ zLs w st h (fun _ => 1) := k
    rw [e] at k
    omega
/-- where the lists lie -/
def zCr (R : Nat → Nat → Nat) : Prop := (isW (R 98 0) ∧ isW (R 98 1) ∧ isSt (R 98 2) ∧ isSt (R 98 3)) ∧ R 98 0 ≠ R 98 1 ∧ R 98 2 ≠ R 98 3
theorem q_addC {x d : Int} {V J U J2 : Nat → Nat → Int} {R R2 : Nat → Nat → Nat} {h : Nat} (hx : f_s_addC x d V J R (U, J2, R2)) (hR : zCr R) (x0 : 0 ≤ x ∧ x ≤ 474) (hd : 0 ≤ d) (hh : V 98 5 = (h : Int)) (hC : zCl (J (R 98 1)) (V (R 98 3)) h) (hb : zLs (J (R 98 1)) (V (R 98 3)) h (fun _ => 1) + d ≤ 1000000000000000000) :
    R2 = R ∧ (∃ h2 : Nat, U 98 5 = (h2 : Int) ∧ zCl (J2 (R 98 1)) (U (R 98 3)) h2 ∧ ∀ L : Nat → Int, zLs (J2 (R 98 1)) (U (R 98 3)) h2 L = zLs (J (R 98 1)) (V (R 98 3)) h L + d * L x.toNat) ∧ (∀ i : Nat, i ≠ 98 → i ≠ R 98 3 → U i = V i) ∧ (∀ k : Nat, k ≠ 5 → U 98 k = V 98 k) ∧ ∀ i : Nat, i ≠ R 98 1 → J2 i = J i := by
  obtain ⟨⟨r0, r1, r2, r3⟩, r4, r5⟩ := hR
  have u98 : (98 : Nat) ≠ R 98 3 := by rcases r3 with e | e <;> rw [e] <;> decide
  obtain ⟨n, rfl⟩ : ∃ n : Nat, x = (n : Int) := ⟨x.toNat, by omega⟩
  have hn : n < 475 := by omega
  have c0 := (hC.2.2 n hn).1
  have c1 := zLs_l hC n hn
  unfold f_s_addC at hx
  dsimp only [rdb, jnk] at hx
  rw [Int.toNat_natCast] at hx ⊢
  by_cases g : d ≤ 0
  · rw [if_pos ((lcI_le _ _).mpr g)] at hx
    simp only [rtn, Prod.mk.injEq] at hx
    obtain ⟨rfl, rfl, rfl⟩ := hx
    have d0 : d = 0 := by omega
    subst d0
    exact ⟨rfl, ⟨h, hh, hC, fun L => by rw [Int.zero_mul, Int.add_zero]⟩, fun _ _ _ => rfl, fun _ _ => rfl, fun _ _ => rfl⟩
  rw [if_neg (fun hq => g ((lcI_le _ _).mp hq)), if_neg (by omega), if_pos (by omega)] at hx
  by_cases g0 : J (R 98 1) n = 0
  · rw [if_neg (fun hq => hq ((lcI_eq _ _).mpr g0))] at hx
    obtain ⟨-, hx⟩ := hx
    have room := hC.room hn g0
    rw [hh, if_neg (by omega), Int.toNat_natCast] at hx
    simp only [rtn, Prod.mk.injEq] at hx
    obtain ⟨hU, hJ, rfl⟩ := hx
    rw [g0, zWj ⟨by omega, by omega⟩, Int.zero_add] at hJ
    obtain ⟨k1, k2⟩ := hC.new hn (by omega) g0 (d := d)
    have eJ : J2 (R2 98 1) = up1 (J (R2 98 1)) n d := by rw [hJ, up2_row]
    have eU : U (R2 98 3) = up1 (V (R2 98 3)) h (n : Int) := by rw [hU, up2_c _ _ (fun e => u98 e.symm), up2_row]
    rw [← eJ, ← eU] at k1 k2
    refine ⟨rfl, ⟨h + 1, ?_, k1, k2⟩, fun i i1 i2 => ?_, fun k hk => ?_, fun i hi => ?_⟩
    · rw [hU, up2_s]; omega
    · rw [hU, up2_c _ _ i1, up2_c _ _ i2]
    · rw [hU, up2_n _ _ (Or.inr hk), up2_n _ _ (Or.inl u98)]
    · rw [hJ, up2_c _ _ hi]
  · rw [if_pos (fun hq => g0 ((lcI_eq _ _).mp hq))] at hx
    simp only [rtn, Prod.mk.injEq] at hx
    obtain ⟨rfl, hJ, rfl⟩ := hx
    rw [zWj ⟨by omega, by omega⟩] at hJ
    obtain ⟨k1, k2⟩ := hC.more hn hd g0
    have eJ : J2 (R2 98 1) = up1 (J (R2 98 1)) n (J (R2 98 1) n + d) := by rw [hJ, up2_row]
    rw [← eJ] at k1 k2
    exact ⟨rfl, ⟨h, hh, k1, k2⟩, fun _ _ _ => rfl, fun _ _ => rfl, fun i hi => by rw [hJ, up2_c _ _ hi]⟩
end
section
-- what was next is now (own work)
/-- the listed states as they stand between two DRAWS -/
def zCs (V J : Nat → Nat → Int) (R : Nat → Nat → Nat) (h : Nat) : Prop := zCr R ∧ V 98 4 = (h : Int) ∧ zCl (J (R 98 0)) (V (R 98 2)) h ∧ V 98 5 = 0 ∧ ∀ s : Nat, s < 475 → J (R 98 1) s = 0
def zCm (V J : Nat → Nat → Int) (R : Nat → Nat → Nat) (h : Nat) (L : Nat → Int) : Int := zLs (J (R 98 0)) (V (R 98 2)) h L
theorem zCr.ne {R : Nat → Nat → Nat} (h : zCr R) : R 98 0 ≠ 98 ∧ R 98 1 ≠ 98 ∧ R 98 2 ≠ 98 ∧ R 98 3 ≠ 98 := by
  obtain ⟨⟨r0, r1, r2, r3⟩, -, -⟩ := h
  refine ⟨?_, ?_, ?_, ?_⟩
  · rcases r0 with e | e <;> rw [e] <;> decide
  · rcases r1 with e | e <;> rw [e] <;> decide
  · rcases r2 with e | e <;> rw [e] <;> decide
  · rcases r3 with e | e <;> rw [e] <;> decide
theorem q_goOn {V J U J2 : Nat → Nat → Int} {R R2 : Nat → Nat → Nat} {h0 h1 : Nat} (hx : f_s_goOn V J R (U, J2, R2)) (hR : zCr R) (e0 : V 98 4 = (h0 : Int)) (c0 : zCl (J (R 98 0)) (V (R 98 2)) h0) (e1 : V 98 5 = (h1 : Int)) (c1 : zCl (J (R 98 1)) (V (R 98 3)) h1) :
    zCs U J2 R2 h1 ∧ (∀ L : Nat → Int, zCm U J2 R2 h1 L = zLs (J (R 98 1)) (V (R 98 3)) h1 L) ∧ (∀ i : Nat, i ≠ 98 → U i = V i) ∧ (∀ k : Nat, k ≠ 4 → k ≠ 5 → U 98 k = V 98 k) ∧ J2 98 16 = wrJ (10 * J 98 16) ∧ ∀ i : Nat, i ≠ 98 → R2 i = R i := by
  have n := hR.ne
  obtain ⟨⟨r0, r1, r2, r3⟩, r4, r5⟩ := hR
  unfold f_s_goOn at hx
  obtain ⟨b, hb, hx⟩ := lop2_g hx
  have key : ∀ (m i : Nat) (Y : Nat → Nat → Int), i ≤ h0 → (∀ q : Nat, q ≠ R 98 0 → Y q = J q) → (∀ j : Nat, j < i → Y (R 98 0) (V (R 98 2) j).toNat = 0) → (∀ s : Nat, Y (R 98 0) s = J (R 98 0) s ∨ Y (R 98 0) s = 0) → lop2 m b (i : Int) Y (U, J2, R2) →
      zCs U J2 R2 h1 ∧ (∀ L : Nat → Int, zCm U J2 R2 h1 L = zLs (J (R 98 1)) (V (R 98 3)) h1 L) ∧ (∀ i : Nat, i ≠ 98 → U i = V i) ∧ (∀ k : Nat, k ≠ 4 → k ≠ 5 → U 98 k = V 98 k) ∧ J2 98 16 = wrJ (10 * J 98 16) ∧ ∀ i : Nat, i ≠ 98 → R2 i = R i := by
    intro m
    induction m with
    | zero => intro i Y _ _ _ _ h; exact False.elim h
    | succ m ih =>
      intro i Y hi hY hz ho h
      rw [lop2_s hb] at h
      obtain ⟨-, h⟩ := h
      rw [e0] at h
      by_cases g : (h0 : Int) ≤ i
      · rw [if_pos g] at h
        simp only [rdb] at h
        obtain ⟨-, h⟩ := h
        simp only [rtn, Prod.mk.injEq] at h
        obtain ⟨hU, hJ, hR2⟩ := h
        have ei : i = h0 := by omega
        subst ei
        have q0 : R2 98 0 = R 98 1 := by
          rw [hR2, up2_n _ _ (Or.inr (by decide)), up2_n _ _ (Or.inr (by decide)), up2_n _ _ (Or.inr (by decide)), up2_s]
        have q1 : R2 98 1 = R 98 0 := by
          rw [hR2, up2_n _ _ (Or.inr (by decide)), up2_n _ _ (Or.inr (by decide)), up2_s]
        have q2 : R2 98 2 = R 98 3 := by
          rw [hR2, up2_n _ _ (Or.inr (by decide)), up2_s, up2_n _ _ (Or.inr (by decide)), up2_n _ _ (Or.inr (by decide))]
        have q3 : R2 98 3 = R 98 2 := by
          rw [hR2, up2_s, up2_n _ _ (Or.inr (by decide)), up2_n _ _ (Or.inr (by decide))]
        have uo : ∀ i : Nat, i ≠ 98 → U i = V i := fun i hi => by rw [hU, up2_c _ _ hi, up2_c _ _ hi]
        have jo : ∀ i : Nat, i ≠ 98 → J2 i = Y i := fun i hi => by rw [hJ, up2_c _ _ hi]
        have j1 : J2 (R 98 1) = J (R 98 1) := by rw [jo _ n.2.1]; exact hY _ (fun e => r4 e.symm)
        have u3 : U (R 98 3) = V (R 98 3) := uo _ n.2.2.2
        refine ⟨⟨⟨⟨?_, ?_, ?_, ?_⟩, ?_, ?_⟩, ?_, ?_, ?_, fun s hs => ?_⟩, fun L => ?_, uo, fun k k1 k2 => ?_, ?_, fun i hi => ?_⟩
        · rw [q0]; exact r1
        · rw [q1]; exact r0
        · rw [q2]; exact r3
        · rw [q3]; exact r2
        · rw [q0, q1]; exact fun e => r4 e.symm
        · rw [q2, q3]; exact fun e => r5 e.symm
        · rw [hU, up2_n _ _ (Or.inr (by decide)), up2_s, e1]
        · rw [q0, q2, j1, u3]; exact c1
        · rw [hU, up2_s]
        · rw [q1, jo _ n.1]
          rcases ho s with e | e
          · rw [e]
            by_cases z : J (R 98 0) s = 0
            · exact z
            · obtain ⟨j, k1, k2⟩ := (c0.2.2 s hs).2 z
              have k3 := hz j k1
              rw [k2, Int.toNat_natCast, e] at k3
              exact absurd k3 z
          · exact e
        · unfold zCm
          rw [q0, q2, j1, u3]
        · rw [hU, up2_n _ _ (Or.inr k2), up2_n _ _ (Or.inr k1)]
        · rw [hJ, up2_s, hY 98 (fun e => n.1 e.symm)]
        · rw [hR2, up2_c _ _ hi, up2_c _ _ hi, up2_c _ _ hi, up2_c _ _ hi]
      · rw [if_neg g] at h
        simp only [rdb] at h
        obtain ⟨-, h⟩ := h
        rw [Int.toNat_natCast] at h
        have e : ((i : Int) + 1) = ((i + 1 : Nat) : Int) := by omega
        rw [e] at h
        refine ih (i + 1) _ (by omega) (fun q hq => ?_) (fun j hj => ?_) (fun s => ?_) h
        · rw [up2_c _ _ hq]; exact hY q hq
        · rw [up2_row]
          by_cases k : (V (R 98 2) j).toNat = (V (R 98 2) i).toNat
          · rw [k, up1_s]
          · rw [up1_n _ _ k]
            by_cases ej : j = i
            · subst ej; exact absurd rfl k
            · exact hz j (by omega)
        · rw [up2_row]
          by_cases k : s = (V (R 98 2) i).toNat
          · subst k; rw [up1_s]; exact Or.inr rfl
          · rw [up1_n _ _ k]; exact ho s
  exact key 477 0 J (Nat.zero_le _) (fun _ _ => rfl) (fun j hj => by omega) (fun _ => Or.inl rfl) hx
end
section
-- one state of one PLANT; what becomes of it, and of a number for each state (own work)
def dryS (s : Nat) : Int := if 9 < (s : Int) / 25 then 0 else (s : Int) / 25
def drnS (s : Nat) : Int := if (s : Int) / 25 ≤ 9 then 0 else (s : Int) / 25 - 9
abbrev dedS (bears : Int) (s : Nat) : Prop := bears ≤ max (dryS s) (drnS s)
def kndS (dry drn : Int) : Int := if dry ≤ 0 then (if drn ≤ 0 then 0 else min drn 9 + 9) else min dry 9
def thS (s : Nat) (less : Int) : Int := max 0 ((s : Int) % 25 - less)
def bhS (pot : Int) (s : Nat) (less : Int) : Nat := (25 * kndS (if thS s less = 0 then dryS s + 1 else 0) (if thS s less = pot then drnS s + 1 else 0) + thS s less).toNat
def toS (pot : Int) (s : Nat) (g : Int) : Nat := ((s : Int) + min (pot - (s : Int) % 25) g).toNat
def zTp (bears pot c : Int) (g : Nat → Int) (L : Nat → Int) : Nat → Int := fun s => if dedS bears s then 10 * L s else (10 - c) * L s + c * L (toS pot s (g s))
def zTd (bears pot : Int) (e h : Nat → Int) (L : Nat → Int) : Nat → Int := fun s => if dedS bears s then 10 * L s else 5 * L (bhS pot s (e s)) + 5 * L (bhS pot s (e s + h s))
theorem dryS_r (s : Nat) (h : s < 475) : 0 ≤ dryS s ∧ dryS s ≤ 9 := by
  unfold dryS
  split <;> omega
theorem drnS_r (s : Nat) (h : s < 475) : 0 ≤ drnS s ∧ drnS s ≤ 9 := by
  unfold drnS
  split <;> omega
theorem kndS_r {x y : Int} : 0 ≤ kndS x y ∧ kndS x y ≤ 18 := by
  unfold kndS
  split
  · split <;> omega
  · omega
theorem thS_r (s : Nat) {less : Int} (h : 0 ≤ less) : 0 ≤ thS s less ∧ thS s less ≤ 24 := by
  unfold thS
  omega
theorem bhS_r (pot : Int) (s : Nat) {less : Int} (h : 0 ≤ less) : (bhS pot s less : Int) = 25 * kndS (if thS s less = 0 then dryS s + 1 else 0) (if thS s less = pot then drnS s + 1 else 0) + thS s less ∧ bhS pot s less < 475 := by
  have h1 := thS_r s h
  have h2 := kndS_r (x := if thS s less = 0 then dryS s + 1 else 0) (y := if thS s less = pot then drnS s + 1 else 0)
  unfold bhS
  omega
theorem toS_r {pot : Int} {s : Nat} {g : Int} (hs : s < 475) (hp : 0 ≤ pot ∧ pot ≤ 24) (hg : 0 ≤ g) : (toS pot s g : Int) = (s : Int) + min (pot - (s : Int) % 25) g ∧ toS pot s g < 475 ∧ (toS pot s g : Int) / 25 = (s : Int) / 25 ∧ (toS pot s g : Int) % 25 = min pot ((s : Int) % 25 + g) := by
  unfold toS
  omega
theorem q_kindOf {x y r : Int} (h : f_s_kindOf x y r) : r = kndS x y := by
  unfold f_s_kindOf at h
  unfold kndS
  by_cases g : x ≤ 0
  · rw [if_pos g] at h ⊢
    by_cases g2 : y ≤ 0
    · rw [if_pos g2] at h ⊢; exact h
    · rw [if_neg g2] at h ⊢
      obtain ⟨-, h⟩ := h
      exact h
  · rw [if_neg g] at h ⊢
    obtain ⟨-, h⟩ := h
    exact h
theorem q_stateOf {x y r : Int} (h : f_s_stateOf x y r) (hx : 0 ≤ x ∧ x ≤ 18) (hy : 0 ≤ y ∧ y ≤ 24) : r = 25 * x + y := by
  unfold f_s_stateOf at h
  simp only [rdb] at h
  rw [wr_id (z := 25 * x) ⟨by omega, by omega⟩, wr_id (z := 25 * x + y) ⟨by omega, by omega⟩] at h
  exact h
theorem q_dryOf {x r : Int} (h : f_s_dryOf x r) : r = if 9 < x then 0 else x := by
  unfold f_s_dryOf at h
  by_cases g : 9 < x
  · rw [if_pos g] at h ⊢; exact h
  · rw [if_neg g] at h ⊢; exact h
theorem q_drownedOf {x r : Int} (h : f_s_drownedOf x r) : r = if x ≤ 9 then 0 else x - 9 := by
  unfold f_s_drownedOf at h
  by_cases g : x ≤ 9
  · rw [if_pos g] at h ⊢; exact h
  · rw [if_neg g] at h ⊢; exact h
theorem q_sDedS {s : Nat} {r : Int} {V J : Nat → Nat → Int} {R : Nat → Nat → Nat} (h : f_s_isDeadC ((s : Int) / 25) V J R r) : Sq r (dedS (V 98 13) s) := by
  obtain ⟨y, hy, z, hz, h⟩ := h
  have hy := q_dryOf hy
  have hz := q_drownedOf hz
  simp only [rdb] at h
  have e1 : y = dryS s := hy
  have e2 : z = drnS s := hz
  subst e1 e2
  by_cases g : max (dryS s) (drnS s) < V 98 13
  · rw [if_pos g] at h
    exact Or.inr ⟨h, fun hh => by unfold dedS at hh; omega⟩
  · rw [if_neg g] at h
    exact Or.inl ⟨h, by unfold dedS; omega⟩
theorem q_lookAt {s : Nat} {V J U : Nat → Nat → Int} {R : Nat → Nat → Nat} (hs : s < 475) (h : f_s_lookAt (s : Int) V J R U) : U 70 = up1 (up1 (up1 (V 70) 5 ((s : Int) % 25)) 24 (dryS s)) 25 (drnS s) ∧ ∀ i : Nat, i ≠ 70 → U i = V i := by
  unfold f_s_lookAt at h
  rw [iRem_p (by omega) (by decide), iDiv_p (by omega) (by decide)] at h
  simp only [rdb, calR, calUX, fct, rtn] at h
  obtain ⟨-, V2, h2, -, z4, h4, V5, h5, -, z7, h7, V8, h8, -, rfl⟩ := h
  have e2 := q_putA h2 (by decide) (k := 5) (by decide)
  have e5 := q_putA h5 (by decide) (k := 24) (by decide)
  have e8 := q_putA h8 (by decide) (k := 25) (by decide)
  have h4 : z4 = dryS s := q_dryOf h4
  have h7 : z7 = drnS s := q_drownedOf h7
  subst e8 e5 e2 h4 h7
  exact ⟨by rw [up2_row, up2_row, up2_row], fun i hi => by rw [up2_c _ _ hi, up2_c _ _ hi, up2_c _ _ hi]⟩
theorem q_behind {s : Nat} {less r : Int} {V J : Nat → Nat → Int} {R : Nat → Nat → Nat} (hs : s < 475) (hl : 0 ≤ less ∧ less ≤ 1998) (h : f_s_behind (s : Int) less V J R r) : r = (bhS (V 98 10) s less : Int) := by
  have d1 := dryS_r s hs
  have d2 := drnS_r s hs
  unfold f_s_behind at h
  rw [iRem_p (by omega) (by decide), iDiv_p (by omega) (by decide)] at h
  simp only [rdb, jnk, fct] at h
  rw [wr_id (z := (s : Int) % 25 - less) ⟨by omega, by omega⟩] at h
  obtain ⟨-, -, h⟩ := h
  have t := thS_r s hl.1
  have et : max 0 ((s : Int) % 25 - less) = thS s less := rfl
  rw [et] at h
  have fin : ∀ x y : Int, (calR (f_s_kindOf x y) fun z15 r => (-2147483648 ≤ z15 ∧ z15 ≤ 18) ∧ calR (f_s_stateOf z15 (thS s less)) (fun z16 => rtn z16) r) r → r = 25 * kndS x y + thS s less := fun x y h => by
    obtain ⟨k, hk, -, z, hz, h⟩ := h
    have hk := q_kindOf hk
    subst hk
    have hz := q_stateOf hz kndS_r t
    have h : r = z := h
    rw [h, hz]
  have dn : ∀ x : Int, (if ¬ thS s less = V 98 10 then calR (f_s_kindOf x 0) (fun z15 r => (-2147483648 ≤ z15 ∧ z15 ≤ 18) ∧ calR (f_s_stateOf z15 (thS s less)) (fun z16 => rtn z16) r) else calR (f_s_drownedOf ((s : Int) / 25)) fun z19 => calR (f_s_kindOf x (wr (z19 + 1))) fun z15 r => (-2147483648 ≤ z15 ∧ z15 ≤ 18) ∧ calR (f_s_stateOf z15 (thS s less)) (fun z16 => rtn z16) r) r → r = 25 * kndS x (if thS s less = V 98 10 then drnS s + 1 else 0) + thS s less := fun x h => by
    by_cases g : thS s less = V 98 10
    · rw [if_neg (fun hh => hh g)] at h
      rw [if_pos g]
      obtain ⟨z, hz, h⟩ := h
      have hz : z = drnS s := q_drownedOf hz
      rw [hz, wr_id ⟨by omega, by omega⟩] at h
      exact fin _ _ h
    · rw [if_pos g] at h
      rw [if_neg g]
      exact fin _ _ h
  rw [(bhS_r (V 98 10) s hl.1).1]
  by_cases g : thS s less = 0
  · rw [if_neg (fun hh => hh g)] at h
    rw [if_pos g]
    obtain ⟨z, hz, h⟩ := h
    have hz : z = dryS s := q_dryOf hz
    rw [hz, wr_id (z := dryS s + 1) ⟨by omega, by omega⟩] at h
    exact dn _ h
  · rw [if_pos g] at h
    rw [if_neg g]
    exact dn _ h
/-- how many CUPS one gives in a state -/
def gvS (V : Nat → Nat → Int) (t : Nat) (l o s0 d n p tt fx un : Int) (s : Nat) : Int := if fx ≤ 0 then asT V t 103 9 (rowC l o s0 d n p tt ((s : Int) % 25) (dryS s) (drnS s)) else if un ≤ (s : Int) % 25 then 0 else fx
/-- how many go in a state -/
def goS (V : Nat → Nat → Int) (t : Nat) (lt : Int) (l o s0 d n : Int) (s : Nat) : Int := asT V t lt 9 (rowC l o s0 d n 0 0 ((s : Int) % 25) (dryS s) (drnS s))
/-- the letters as they stand, but for the state -/
def zRw (V : Nat → Nat → Int) (l o s0 d n p tt : Int) : Prop := ∃ f y z : Int, ∀ k : Nat, k < 26 → V 70 k = rowC l o s0 d n p tt f y z k
def zRb (l o s0 d n p tt : Int) : Prop := R32 l ∧ R32 o ∧ R32 s0 ∧ R32 d ∧ R32 n ∧ R32 p ∧ R32 tt
theorem rowC_s {l o s0 d n p tt : Int} (h : zRb l o s0 d n p tt) {s : Nat} (hs : s < 475) : ∀ k : Nat, k < 26 → R32 (rowC l o s0 d n p tt ((s : Int) % 25) (dryS s) (drnS s) k) := fun k _ => by
  obtain ⟨h1, h2, h3, h4, h5, h6, h7⟩ := h
  have d1 := dryS_r s hs
  have d2 := drnS_r s hs
  exact rowC_r h1 h2 h3 h4 h5 h6 h7 ⟨by omega, by omega⟩ ⟨by omega, by omega⟩ ⟨by omega, by omega⟩ k
end
section
-- one PERSON comes or not: over all listed states (own work)
theorem sm_le {f : Nat → Int} {i : Nat} : ∀ {n : Nat}, (∀ j : Nat, j < n → 0 ≤ f j) → i ≤ n → zsm f i ≤ zsm f n
  | 0, _, h => by
    have e : i = 0 := by omega
    subst e; exact Int.le_refl _
  | n + 1, hf, h => by
    by_cases e : i = n + 1
    · subst e; exact Int.le_refl _
    · have k := sm_le (f := f) (i := i) (n := n) (fun j hj => hf j (by omega)) (by omega)
      have k2 := hf n (by omega)
      show zsm f i ≤ zsm f n + f n
      omega
theorem mul_b {a b : Int} (ha : 0 ≤ a) (hb : 0 ≤ b ∧ b ≤ 10) : 0 ≤ a * b ∧ a * b ≤ 10 * a := by
  refine ⟨Int.mul_nonneg ha hb.1, ?_⟩
  have := Int.mul_le_mul_of_nonneg_left hb.2 ha
  omega
theorem gvS_r {V : Nat → Nat → Int} {t : Nat} {l o s0 d n p tt fx un : Int} {s : Nat} (h : fx ≤ 9) : 0 ≤ gvS V t l o s0 d n p tt fx un s ∧ gvS V t l o s0 d n p tt fx un s ≤ 9 := by
  unfold gvS
  by_cases g : fx ≤ 0
  · rw [if_pos g]; exact asT_r (by decide)
  · rw [if_neg g]
    split <;> omega
theorem gvS_v {V U : Nat → Nat → Int} {t : Nat} {l o s0 d n p tt fx un : Int} (h : ∀ i : Nat, t ≤ i → i ≤ t + 4 → U i = V i) (s : Nat) : gvS U t l o s0 d n p tt fx un s = gvS V t l o s0 d n p tt fx un s := by
  unfold gvS
  rw [asT_v h]
theorem q_giftC {t : Nat} {a : Int} {V J U : Nat → Nat → Int} {R : Nat → Nat → Nat} {l o s0 d n p tt : Int} {s : Nat} (hs : s < 475) (ht : isTx t) (hq : zLq V) (hB : zRb l o s0 d n p tt) (hr : ∀ k : Nat, k < 26 → V 70 k = rowC l o s0 d n p tt ((s : Int) % 25) (dryS s) (drnS s) k) (hx : f_s_giftC t ((s : Int) % 25) V J R (a, U)) : a = gvS V t l o s0 d n p tt (V 98 15) (V 98 14) s ∧ ∀ i : Nat, i ≠ 69 → i ≠ 71 → U i = V i := by
  unfold f_s_giftC at hx
  simp only [rdb] at hx
  unfold gvS
  by_cases g : V 98 15 ≤ 0
  · rw [if_pos g] at hx ⊢
    obtain ⟨z, Y, hz, -, -, hx⟩ := hx
    simp only [rtn, Prod.mk.injEq] at hx
    obtain ⟨rfl, rfl⟩ := hx
    exact s_tells ht hq hr (rowC_s hB hs) (by decide) hz
  · rw [if_neg g] at hx ⊢
    by_cases g2 : V 98 14 ≤ (s : Int) % 25
    · rw [if_pos g2] at hx ⊢
      simp only [rtn, Prod.mk.injEq] at hx
      exact ⟨hx.1, fun i _ _ => by rw [hx.2]⟩
    · rw [if_neg g2] at hx ⊢
      simp only [rtn, Prod.mk.injEq] at hx
      exact ⟨hx.1, fun i _ _ => by rw [hx.2]⟩
/-- all is as it was, but for the asker and the lists -/
def zFc (V U : Nat → Nat → Int) : Prop := ∀ i : Nat, i ≠ 69 → i ≠ 70 → i ≠ 71 → i ≠ 98 → i ≠ 101 → i ≠ 102 → U i = V i
theorem zFc.tx {V U : Nat → Nat → Int} (h : zFc V U) {t : Nat} (ht : isTx t) : ∀ i : Nat, t ≤ i → i ≤ t + 4 → U i = V i := fun i i1 i2 => by
  have b := isTx_b ht
  exact h i (by omega) (by omega) (by omega) (by omega) (by omega) (by omega)
theorem zFc.lq {V U : Nat → Nat → Int} (h : zFc V U) (hq : zLq V) : zLq U := hq.cg fun i i1 i2 i3 => h i (by omega) (by omega) (by omega) (by omega) (by omega) (by omega)
/-- while states are gone through -/
def zCi (V J : Nat → Nat → Int) (R : Nat → Nat → Nat) (T : (Nat → Int) → Nat → Int) (i : Nat) (Y Z : Nat → Nat → Int) (Q : Nat → Nat → Nat) : Prop :=
  Q = R ∧ (∀ j : Nat, j ≠ R 98 1 → Z j = J j) ∧ (∀ k : Nat, k ≠ 5 → Y 98 k = V 98 k) ∧ (∀ j : Nat, j ≠ 69 → j ≠ 70 → j ≠ 71 → j ≠ 98 → j ≠ R 98 3 → Y j = V j) ∧
  ∃ h1 : Nat, Y 98 5 = (h1 : Int) ∧ zCl (Z (R 98 1)) (Y (R 98 3)) h1 ∧ ∀ L : Nat → Int, zLs (Z (R 98 1)) (Y (R 98 3)) h1 L = zsm (fun j => J (R 98 0) (V (R 98 2) j).toNat * T L (V (R 98 2) j).toNat) i
theorem zCi.fc {V J : Nat → Nat → Int} {R : Nat → Nat → Nat} {T : (Nat → Int) → Nat → Int} {i : Nat} {Y Z : Nat → Nat → Int} {Q : Nat → Nat → Nat} (h : zCi V J R T i Y Z Q) (hR : zCr R) : zFc V Y := fun j j1 j2 j3 j4 j5 j6 => h.2.2.2.1 j j1 j2 j3 j4 (by rcases hR.1.2.2.2 with e | e <;> rw [e] <;> assumption)
theorem q_comeBy {t : Nat} {c : Int} {V J U J2 : Nat → Nat → Int} {R R2 : Nat → Nat → Nat} {h : Nat} {l o s0 d n p tt : Int} (hx9 : f_s_comeBy t c V J R (U, J2, R2)) (ht : isTx t) (hq : zLq V) (hS : zCs V J R h) (hc : 0 ≤ c ∧ c ≤ 10) (hp : 0 ≤ V 98 10 ∧ V 98 10 ≤ 24) (hfx : V 98 15 ≤ 9) (hB : zRb l o s0 d n p tt) (hw : zRw V l o s0 d n p tt) (hm : 10 * zCm V J R h (fun _ => 1) ≤ 1000000000000000000) :
    ∃ h2 : Nat, zCs U J2 R2 h2 ∧ (∀ L : Nat → Int, zCm U J2 R2 h2 L = zCm V J R h (zTp (V 98 13) (V 98 10) c (gvS V t l o s0 d n p tt (V 98 15) (V 98 14)) L)) ∧ zRw U l o s0 d n p tt ∧ zFc V U ∧ (∀ k : Nat, k ≠ 4 → k ≠ 5 → U 98 k = V 98 k) ∧ J2 98 16 = wrJ (10 * J 98 16) ∧ ∀ i : Nat, i ≠ 98 → R2 i = R i := by
  obtain ⟨hR, e4, c0, e5, z1⟩ := hS
  have ne := hR.ne
  have hh := c0.h475
  unfold f_s_comeBy at hx9
  obtain ⟨b, hb, hx9⟩ := zlop4 hx9
  have hR0 := hR
  obtain ⟨⟨r0, r1, r2, r3⟩, r4, r5⟩ := hR0
  have bT := isTx_b ht
  have key : ∀ (m i : Nat) (Y Z : Nat → Nat → Int) (Q : Nat → Nat → Nat), i ≤ h → zCi V J R (zTp (V 98 13) (V 98 10) c (gvS V t l o s0 d n p tt (V 98 15) (V 98 14))) i Y Z Q → zRw Y l o s0 d n p tt → lop4 m b (i : Int) Y Z Q (U, J2, R2) →
      ∃ h2 : Nat, zCs U J2 R2 h2 ∧ (∀ L : Nat → Int, zCm U J2 R2 h2 L = zCm V J R h (zTp (V 98 13) (V 98 10) c (gvS V t l o s0 d n p tt (V 98 15) (V 98 14)) L)) ∧ zRw U l o s0 d n p tt ∧ zFc V U ∧ (∀ k : Nat, k ≠ 4 → k ≠ 5 → U 98 k = V 98 k) ∧ J2 98 16 = wrJ (10 * J 98 16) ∧ ∀ i : Nat, i ≠ 98 → R2 i = R i := by
    intro m
    induction m with
    | zero => intro i Y Z Q _ _ _ h; exact False.elim h
    | succ m ih =>
      intro i Y Z Q hi hI hW hx
      have hfc := hI.fc hR
      obtain ⟨rfl, hZ, hY8, hY, h1, g1, g2, g3⟩ := hI
      rw [lop4_s hb] at hx
      obtain ⟨-, hx⟩ := hx
      rw [hY8 4 (by decide), e4] at hx
      have Y2 : Y (Q 98 2) = V (Q 98 2) := hY _ (by rcases r2 with e | e <;> rw [e] <;> decide) (by rcases r2 with e | e <;> rw [e] <;> decide) (by rcases r2 with e | e <;> rw [e] <;> decide) ne.2.2.1 r5
      have Z0 : Z (Q 98 0) = J (Q 98 0) := hZ _ r4
      by_cases g : (h : Int) ≤ i
      · rw [if_pos g] at hx
        obtain ⟨U9, J9, R9, k, -, hx⟩ := hx
        simp only [rtn, Prod.mk.injEq] at hx
        obtain ⟨rfl, rfl, rfl⟩ := hx
        have ei : i = h := by omega
        subst ei
        obtain ⟨p1, p2, p3, p4, p5, p6⟩ := q_goOn k hR (h0 := i) (h1 := h1) (by rw [hY8 4 (by decide)]; exact e4) (by rw [Z0, Y2]; exact c0) g1 g2
        refine ⟨h1, p1, fun L => ?_, ?_, fun j j1 j2 j3 j4 j5 j6 => ?_, fun k k1 k2 => ?_, ?_, p6⟩
        · rw [p2, g3]; rfl
        · obtain ⟨f, y, z, q⟩ := hW
          exact ⟨f, y, z, fun k hk => by rw [p3 70 (by decide)]; exact q k hk⟩
        · rw [p3 j j4]; exact hfc j j1 j2 j3 j4 j5 j6
        · rw [p4 k k1 k2]; exact hY8 k k2
        · rw [p5, hZ 98 (fun e => ne.2.1 e.symm)]
      · rw [if_neg g] at hx
        have hih : i < h := by omega
        obtain ⟨s1, s2, s3⟩ := c0.1 i hih
        simp only [rdb, jnk] at hx
        rw [Y2, Int.toNat_natCast] at hx
        obtain ⟨-, hx⟩ := hx
        generalize hst : (V (Q 98 2) i) = sI at hx s1 s2 s3
        obtain ⟨s, rfl⟩ : ∃ s : Nat, sI = (s : Int) := ⟨sI.toNat, by omega⟩
        have hs : s < 475 := by omega
        rw [iDiv_p (by omega) (by decide), iRem_p (by omega) (by decide), Int.toNat_natCast] at hx
        rw [Int.toNat_natCast] at s3
        obtain ⟨-, zd, hzd, -, hx⟩ := hx
        have hzd := q_sDedS hzd
        rw [hY8 13 (by decide)] at hzd
        have hst2 : (V (Q 98 2) i).toNat = s := by omega
        generalize hwi : J (Q 98 0) s = w at s3
        have hT : ∀ L : Nat → Int, zsm (fun j => J (Q 98 0) (V (Q 98 2) j).toNat * zTp (V 98 13) (V 98 10) c (gvS V t l o s0 d n p tt (V 98 15) (V 98 14)) L (V (Q 98 2) j).toNat) (i + 1) = zsm (fun j => J (Q 98 0) (V (Q 98 2) j).toNat * zTp (V 98 13) (V 98 10) c (gvS V t l o s0 d n p tt (V 98 15) (V 98 14)) L (V (Q 98 2) j).toNat) i + w * zTp (V 98 13) (V 98 10) c (gvS V t l o s0 d n p tt (V 98 15) (V 98 14)) L s := fun L => by
          show zsm _ i + J (Q 98 0) (V (Q 98 2) i).toNat * _ = _
          rw [hst2, hwi]
        have one : ∀ q : Nat, zTp (V 98 13) (V 98 10) c (gvS V t l o s0 d n p tt (V 98 15) (V 98 14)) (fun _ => 1) q = 10 := fun q => by
          unfold zTp
          dsimp only
          split <;> omega
        have tot : zsm (fun j => J (Q 98 0) (V (Q 98 2) j).toNat * zTp (V 98 13) (V 98 10) c (gvS V t l o s0 d n p tt (V 98 15) (V 98 14)) (fun _ => 1) (V (Q 98 2) j).toNat) i + 10 * w ≤ 1000000000000000000 := by
          have a1 := hT (fun _ => 1)
          rw [one] at a1
          have a2 := sm_le (f := fun j => J (Q 98 0) (V (Q 98 2) j).toNat * zTp (V 98 13) (V 98 10) c (gvS V t l o s0 d n p tt (V 98 15) (V 98 14)) (fun _ => 1) (V (Q 98 2) j).toNat) (i := i + 1) (n := h) (fun j hj => by
            show 0 ≤ J (Q 98 0) (V (Q 98 2) j).toNat * zTp _ _ _ _ _ _
            rw [one]
            have := (c0.1 j hj).2.2
            omega) (by omega)
          have a3 : zsm (fun j => J (Q 98 0) (V (Q 98 2) j).toNat * zTp (V 98 13) (V 98 10) c (gvS V t l o s0 d n p tt (V 98 15) (V 98 14)) (fun _ => 1) (V (Q 98 2) j).toNat) h = 10 * zCm V J Q h (fun _ => 1) := sm_m fun j _ => by
            show J (Q 98 0) (V (Q 98 2) j).toNat * zTp _ _ _ _ _ _ = 10 * (J (Q 98 0) (V (Q 98 2) j).toNat * 1)
            rw [one]
            omega
          omega
        have lsn : 0 ≤ zLs (Z (Q 98 1)) (Y (Q 98 3)) h1 (fun _ => 1) := zLs_n g2 (fun _ => by decide)
        have lt1 := g3 (fun _ => 1)
        rw [Z0, hwi] at hx
        have nx : ((i : Int) + 1) = ((i + 1 : Nat) : Int) := by omega
        -- one step, by the tenths that count
        have step : ∀ c2 : Int, 0 ≤ c2 ∧ c2 ≤ 10 → (∀ (L : Nat → Int), (10 - c2) * L s + c2 * L (toS (V 98 10) s (gvS V t l o s0 d n p tt (V 98 15) (V 98 14) s)) = zTp (V 98 13) (V 98 10) c (gvS V t l o s0 d n p tt (V 98 15) (V 98 14)) L s) →
            calTX (fun i _ : Nat => (98 ≤ i ∧ i ≤ 104)) Y (f_s_addC (s : Int) (wrJ (w * wr (-c2 + 10))) Y Z Q) (fun V582 J582 R582 => if c2 ≤ 0 then lop4 m b ((i : Int) + 1) V582 J582 R582 else calUX (fun i _ : Nat => (69 ≤ i ∧ i ≤ 71)) V582 (f_s_lookAt (s : Int) V582 J582 R582) fun V596 r => (0 ≤ (s : Int) % 25 ∧ (s : Int) % 25 ≤ 24) ∧ calVX (fun i _ : Nat => (69 ≤ i ∧ i ≤ 71)) V596 (f_s_giftC t ((s : Int) % 25) V596 J582 R582) (fun z600 V600 => calTX (fun i _ : Nat => (98 ≤ i ∧ i ≤ 104)) V600 (f_s_addC (wr ((s : Int) + min (wr (V596 98 10 - (s : Int) % 25)) z600)) (wrJ (J582 (R582 98 0) s * c2)) V600 J582 R582) fun V606 J606 R606 => lop4 m b ((i : Int) + 1) V606 J606 R606) r) (U, J2, R2) →
            ∃ h2 : Nat, zCs U J2 R2 h2 ∧ (∀ L : Nat → Int, zCm U J2 R2 h2 L = zCm V J Q h (zTp (V 98 13) (V 98 10) c (gvS V t l o s0 d n p tt (V 98 15) (V 98 14)) L)) ∧ zRw U l o s0 d n p tt ∧ zFc V U ∧ (∀ k : Nat, k ≠ 4 → k ≠ 5 → U 98 k = V 98 k) ∧ J2 98 16 = wrJ (10 * J 98 16) ∧ ∀ i : Nat, i ≠ 98 → R2 i = Q i := by
          intro c2 hc2 hTc hx7
          obtain ⟨Ya, Za, Qa, ka, -, hx7⟩ := hx7
          have m1 := mul_b (a := w) (b := 10 - c2) (by omega) (by omega)
          have m2 := mul_b (a := w) (b := c2) (by omega) (by omega)
          have m3 : w * (10 - c2) + w * c2 = 10 * w := by rw [← Int.mul_add]; omega
          rw [show -c2 + 10 = 10 - c2 by omega, wr_id (z := 10 - c2) ⟨by omega, by omega⟩, zWj ⟨by omega, by omega⟩] at ka
          obtain ⟨rfl, ⟨h2, a1, a2, a3⟩, a4, a5, a6⟩ := q_addC ka hR ⟨by omega, by omega⟩ m1.1 g1 g2 (by omega)
          have a31 := a3 (fun _ => 1)
          have Ya3 : ∀ j : Nat, j ≠ 69 → j ≠ 70 → j ≠ 71 → j ≠ 98 → j ≠ Qa 98 3 → Ya j = V j := fun j j1 j2 j3 j4 j5 => by rw [a4 j j4 j5]; exact hY j j1 j2 j3 j4 j5
          have Ya8 : ∀ k : Nat, k ≠ 5 → Ya 98 k = V 98 k := fun k hk => by rw [a5 k hk]; exact hY8 k hk
          have Za3 : ∀ j : Nat, j ≠ Qa 98 1 → Za j = J j := fun j hj => by rw [a6 j hj]; exact hZ j hj
          have Wa : zRw Ya l o s0 d n p tt := by
            obtain ⟨f, y, z, q⟩ := hW
            exact ⟨f, y, z, fun k hk => by rw [a4 70 (by decide) (by rcases r3 with e | e <;> rw [e] <;> decide)]; exact q k hk⟩
          by_cases g0 : c2 ≤ 0
          · rw [if_pos g0, nx] at hx7
            have c20 : c2 = 0 := by omega
            refine ih (i + 1) Ya Za Qa (by omega) ⟨rfl, Za3, Ya8, Ya3, h2, a1, a2, fun L => ?_⟩ Wa hx7
            rw [a3 L, g3 L, hT L, ← hTc L, Int.toNat_natCast, c20, Int.zero_mul, Int.add_zero, Int.mul_assoc]
          · rw [if_neg g0] at hx7
            obtain ⟨Yb, kb, -, -, hx7⟩ := hx7
            obtain ⟨b1, b2⟩ := q_lookAt hs kb
            obtain ⟨f, y, z, q⟩ := Wa
            have rowb : ∀ k : Nat, k < 26 → Yb 70 k = rowC l o s0 d n p tt ((s : Int) % 25) (dryS s) (drnS s) k := by rw [b1]; exact rowC_look q
            have fcb : zFc V Yb := fun j j1 j2 j3 j4 j5 j6 => by rw [b2 j j2]; exact Ya3 j j1 j2 j3 j4 (by rcases r3 with e | e <;> rw [e] <;> assumption)
            obtain ⟨gv, Yc, kc, -, hx7⟩ := hx7
            obtain ⟨egv, c1⟩ := q_giftC hs ht (fcb.lq hq) hB rowb kc
            have b98 : ∀ k : Nat, k ≠ 5 → Yb 98 k = V 98 k := fun k hk => by rw [b2 98 (by decide)]; exact Ya8 k hk
            rw [b98 15 (by decide), b98 14 (by decide), gvS_v (fcb.tx ht)] at egv
            subst egv
            have gr := gvS_r (V := V) (t := t) (l := l) (o := o) (s0 := s0) (d := d) (n := n) (p := p) (tt := tt) (fx := V 98 15) (un := V 98 14) (s := s) hfx
            have tr := toS_r (g := gvS V t l o s0 d n p tt (V 98 15) (V 98 14) s) hs hp gr.1
            obtain ⟨Yd, Zd, Qd, kd, -, hx7⟩ := hx7
            rw [b98 10 (by decide), wr_id (z := V 98 10 - (s : Int) % 25) ⟨by omega, by omega⟩, wr_id ⟨by omega, by omega⟩, ← tr.1, Za3 _ r4, hwi, zWj ⟨by omega, by omega⟩] at kd
            have y5 : Yc 98 = Ya 98 := by rw [c1 98 (by decide) (by decide), b2 98 (by decide)]
            have n69 : Qa 98 3 ≠ 69 ∧ Qa 98 3 ≠ 70 ∧ Qa 98 3 ≠ 71 := by rcases r3 with e | e <;> rw [e] <;> decide
            have y3 : Yc (Qa 98 3) = Ya (Qa 98 3) := by rw [c1 _ n69.1 n69.2.2, b2 _ n69.2.1]
            obtain ⟨rfl, ⟨h3, d1, d2, d3⟩, d4, d5, d6⟩ := q_addC (h := h2) kd hR ⟨by omega, by omega⟩ m2.1 (by rw [y5]; exact a1) (by rw [y3]; exact a2) (by rw [y3]; omega)
            rw [nx] at hx7
            refine ih (i + 1) Yd Zd Qd (by omega) ⟨rfl, fun j hj => by rw [d6 j hj]; exact Za3 j hj, fun k hk => by rw [d5 k hk, y5]; exact Ya8 k hk, fun j j1 j2 j3 j4 j5 => by rw [d4 j j4 j5, c1 j j1 j3, b2 j j2]; exact Ya3 j j1 j2 j3 j4 j5, h3, d1, d2, fun L => ?_⟩ ⟨_, _, _, fun k hk => by rw [d4 70 (by decide) (fun e => n69.2.1 e.symm), c1 70 (by decide) (by decide)]; exact rowb k hk⟩ hx7
            rw [d3 L, y3, a3 L, g3 L, hT L, ← hTc L, Int.toNat_natCast, Int.toNat_natCast, Int.mul_add, Int.mul_assoc, Int.mul_assoc, Int.add_assoc]
        by_cases gd : zd = 0
        · rw [if_pos gd] at hx
          have al : ¬ dedS (V 98 13) s := by
            rcases hzd with ⟨e, -⟩ | ⟨-, e⟩
            · omega
            · exact e
          exact step c hc (fun L => by unfold zTp; rw [if_neg al]) hx
        · rw [if_neg gd] at hx
          have de : dedS (V 98 13) s := by
            rcases hzd with ⟨-, e⟩ | ⟨e, -⟩
            · exact e
            · omega
          exact step 0 (by decide) (fun L => by unfold zTp; rw [if_pos de, Int.zero_mul, Int.add_zero]; rfl) hx
  exact key 477 0 V J R (Nat.zero_le _) ⟨rfl, fun _ _ => rfl, fun _ _ => rfl, fun _ _ _ _ _ _ => rfl, 0, e5, zCl.nil z1, fun _ => rfl⟩ hw hx9
end
section
-- the sun, or not: over all listed states (own work)
theorem goS_r {V : Nat → Nat → Int} {t : Nat} {lt l o s0 d n : Int} {s : Nat} : 0 ≤ goS V t lt l o s0 d n s ∧ goS V t lt l o s0 d n s ≤ 9 := asT_r (by decide)
theorem goS_v {V U : Nat → Nat → Int} {t : Nat} {lt l o s0 d n : Int} (h : ∀ i : Nat, t ≤ i → i ≤ t + 4 → U i = V i) (s : Nat) : goS U t lt l o s0 d n s = goS V t lt l o s0 d n s := asT_v h
theorem zTd_one {bears pot : Int} {e h : Nat → Int} (q : Nat) : zTd bears pot e h (fun _ => 1) q = 10 := by
  unfold zTd
  dsimp only
  split <;> omega
theorem zTp_one {bears pot c : Int} {g : Nat → Int} (q : Nat) : zTp bears pot c g (fun _ => 1) q = 10 := by
  unfold zTp
  dsimp only
  split <;> omega
theorem q_goDry {t : Nat} {V J U J2 : Nat → Nat → Int} {R R2 : Nat → Nat → Nat} {h : Nat} {l o s0 d n : Int} (hx9 : f_s_goDry t V J R (U, J2, R2)) (ht : isTx t) (hq : zLq V) (hS : zCs V J R h) (hB : zRb l o s0 d n 0 0) (hw : zRw V l o s0 d n 0 0) (hm : 10 * zCm V J R h (fun _ => 1) ≤ 1000000000000000000) :
    ∃ h2 : Nat, zCs U J2 R2 h2 ∧ (∀ L : Nat → Int, zCm U J2 R2 h2 L = zCm V J R h (zTd (V 98 13) (V 98 10) (goS V t 101 l o s0 d n) (goS V t 104 l o s0 d n) L)) ∧ zRw U l o s0 d n 0 0 ∧ zFc V U ∧ (∀ k : Nat, k ≠ 4 → k ≠ 5 → U 98 k = V 98 k) ∧ J2 98 16 = wrJ (10 * J 98 16) ∧ ∀ i : Nat, i ≠ 98 → R2 i = R i := by
  obtain ⟨hR, e4, c0, e5, z1⟩ := hS
  have ne := hR.ne
  have hh := c0.h475
  unfold f_s_goDry at hx9
  obtain ⟨b, hb, hx9⟩ := zlop4 hx9
  have hR0 := hR
  obtain ⟨⟨r0, r1, r2, r3⟩, r4, r5⟩ := hR0
  have bT := isTx_b ht
  have key : ∀ (m i : Nat) (Y Z : Nat → Nat → Int) (Q : Nat → Nat → Nat), i ≤ h → zCi V J R (zTd (V 98 13) (V 98 10) (goS V t 101 l o s0 d n) (goS V t 104 l o s0 d n)) i Y Z Q → zRw Y l o s0 d n 0 0 → lop4 m b (i : Int) Y Z Q (U, J2, R2) →
      ∃ h2 : Nat, zCs U J2 R2 h2 ∧ (∀ L : Nat → Int, zCm U J2 R2 h2 L = zCm V J R h (zTd (V 98 13) (V 98 10) (goS V t 101 l o s0 d n) (goS V t 104 l o s0 d n) L)) ∧ zRw U l o s0 d n 0 0 ∧ zFc V U ∧ (∀ k : Nat, k ≠ 4 → k ≠ 5 → U 98 k = V 98 k) ∧ J2 98 16 = wrJ (10 * J 98 16) ∧ ∀ i : Nat, i ≠ 98 → R2 i = R i := by
    intro m
    induction m with
    | zero => intro i Y Z Q _ _ _ h; exact False.elim h
    | succ m ih =>
      intro i Y Z Q hi hI hW hx
      have hfc := hI.fc hR
      obtain ⟨rfl, hZ, hY8, hY, h1, g1, g2, g3⟩ := hI
      rw [lop4_s hb] at hx
      obtain ⟨-, hx⟩ := hx
      rw [hY8 4 (by decide), e4] at hx
      have Y2 : Y (Q 98 2) = V (Q 98 2) := hY _ (by rcases r2 with e | e <;> rw [e] <;> decide) (by rcases r2 with e | e <;> rw [e] <;> decide) (by rcases r2 with e | e <;> rw [e] <;> decide) ne.2.2.1 r5
      have Z0 : Z (Q 98 0) = J (Q 98 0) := hZ _ r4
      by_cases g : (h : Int) ≤ i
      · rw [if_pos g] at hx
        obtain ⟨U9, J9, R9, k, -, hx⟩ := hx
        simp only [rtn, Prod.mk.injEq] at hx
        obtain ⟨rfl, rfl, rfl⟩ := hx
        have ei : i = h := by omega
        subst ei
        obtain ⟨p1, p2, p3, p4, p5, p6⟩ := q_goOn k hR (h0 := i) (h1 := h1) (by rw [hY8 4 (by decide)]; exact e4) (by rw [Z0, Y2]; exact c0) g1 g2
        refine ⟨h1, p1, fun L => ?_, ?_, fun j j1 j2 j3 j4 j5 j6 => ?_, fun k k1 k2 => ?_, ?_, p6⟩
        · rw [p2, g3]; rfl
        · obtain ⟨f, y, z, q⟩ := hW
          exact ⟨f, y, z, fun k hk => by rw [p3 70 (by decide)]; exact q k hk⟩
        · rw [p3 j j4]; exact hfc j j1 j2 j3 j4 j5 j6
        · rw [p4 k k1 k2]; exact hY8 k k2
        · rw [p5, hZ 98 (fun e => ne.2.1 e.symm)]
      · rw [if_neg g] at hx
        have hih : i < h := by omega
        obtain ⟨s1, s2, s3⟩ := c0.1 i hih
        simp only [rdb, jnk] at hx
        rw [Y2, Int.toNat_natCast] at hx
        obtain ⟨-, hx⟩ := hx
        generalize hst : (V (Q 98 2) i) = sI at hx s1 s2 s3
        obtain ⟨s, rfl⟩ : ∃ s : Nat, sI = (s : Int) := ⟨sI.toNat, by omega⟩
        have hs : s < 475 := by omega
        rw [iDiv_p (by omega) (by decide), Int.toNat_natCast] at hx
        rw [Int.toNat_natCast] at s3
        obtain ⟨-, zd, hzd, -, hx⟩ := hx
        have hzd := q_sDedS hzd
        rw [hY8 13 (by decide)] at hzd
        have hst2 : (V (Q 98 2) i).toNat = s := by omega
        generalize hwi : J (Q 98 0) s = w at s3
        have hT : ∀ L : Nat → Int, zsm (fun j => J (Q 98 0) (V (Q 98 2) j).toNat * zTd (V 98 13) (V 98 10) (goS V t 101 l o s0 d n) (goS V t 104 l o s0 d n) L (V (Q 98 2) j).toNat) (i + 1) = zsm (fun j => J (Q 98 0) (V (Q 98 2) j).toNat * zTd (V 98 13) (V 98 10) (goS V t 101 l o s0 d n) (goS V t 104 l o s0 d n) L (V (Q 98 2) j).toNat) i + w * zTd (V 98 13) (V 98 10) (goS V t 101 l o s0 d n) (goS V t 104 l o s0 d n) L s := fun L => by
          show zsm _ i + J (Q 98 0) (V (Q 98 2) i).toNat * _ = _
          rw [hst2, hwi]
        have tot : zsm (fun j => J (Q 98 0) (V (Q 98 2) j).toNat * zTd (V 98 13) (V 98 10) (goS V t 101 l o s0 d n) (goS V t 104 l o s0 d n) (fun _ => 1) (V (Q 98 2) j).toNat) i + 10 * w ≤ 1000000000000000000 := by
          have a1 := hT (fun _ => 1)
          rw [zTd_one] at a1
          have a2 := sm_le (f := fun j => J (Q 98 0) (V (Q 98 2) j).toNat * zTd (V 98 13) (V 98 10) (goS V t 101 l o s0 d n) (goS V t 104 l o s0 d n) (fun _ => 1) (V (Q 98 2) j).toNat) (i := i + 1) (n := h) (fun j hj => by
            show 0 ≤ J (Q 98 0) (V (Q 98 2) j).toNat * zTd _ _ _ _ _ _
            rw [zTd_one]
            have := (c0.1 j hj).2.2
            omega) (by omega)
          have a3 : zsm (fun j => J (Q 98 0) (V (Q 98 2) j).toNat * zTd (V 98 13) (V 98 10) (goS V t 101 l o s0 d n) (goS V t 104 l o s0 d n) (fun _ => 1) (V (Q 98 2) j).toNat) h = 10 * zCm V J Q h (fun _ => 1) := sm_m fun j _ => by
            show J (Q 98 0) (V (Q 98 2) j).toNat * zTd _ _ _ _ _ _ = 10 * (J (Q 98 0) (V (Q 98 2) j).toNat * 1)
            rw [zTd_one]
            omega
          omega
        have lsn : 0 ≤ zLs (Z (Q 98 1)) (Y (Q 98 3)) h1 (fun _ => 1) := zLs_n g2 (fun _ => by decide)
        have lt1 := g3 (fun _ => 1)
        rw [Z0, hwi] at hx
        have nx : ((i : Int) + 1) = ((i + 1 : Nat) : Int) := by omega
        have n69 : Q 98 3 ≠ 69 ∧ Q 98 3 ≠ 70 ∧ Q 98 3 ≠ 71 := by rcases r3 with e | e <;> rw [e] <;> decide
        by_cases gd : zd = 0
        · rw [if_pos gd] at hx
          have al : ¬ dedS (V 98 13) s := by
            rcases hzd with ⟨e, -⟩ | ⟨-, e⟩
            · omega
            · exact e
          obtain ⟨Yb, kb, -, hx⟩ := hx
          obtain ⟨b1, b2⟩ := q_lookAt hs kb
          obtain ⟨f, y, z, q⟩ := hW
          have rowb : ∀ k : Nat, k < 26 → Yb 70 k = rowC l o s0 d n 0 0 ((s : Int) % 25) (dryS s) (drnS s) k := by rw [b1]; exact rowC_look q
          have fcb : zFc V Yb := fun j j1 j2 j3 j4 j5 j6 => by rw [b2 j j2]; exact hfc j j1 j2 j3 j4 j5 j6
          obtain ⟨ee, Yc, kc, -, -, hx⟩ := hx
          obtain ⟨c1, c2⟩ := s_tells ht (fcb.lq hq) rowb (rowC_s hB hs) (by decide) kc
          have fcc : zFc V Yc := fun j j1 j2 j3 j4 j5 j6 => by rw [c2 j j1 j3]; exact fcb j j1 j2 j3 j4 j5 j6
          obtain ⟨eh, Yd, kd, -, -, hx⟩ := hx
          obtain ⟨d1, d2⟩ := s_tells ht (fcc.lq hq) (by rw [c2 70 (by decide) (by decide)]; exact rowb) (rowC_s hB hs) (by decide) kd
          have c1 : ee = goS V t 101 l o s0 d n s := by rw [c1, asT_v (fcb.tx ht)]; rfl
          have d1 : eh = goS V t 104 l o s0 d n s := by rw [d1, asT_v (fcc.tx ht)]; rfl
          subst c1 d1
          have er := goS_r (V := V) (t := t) (lt := 101) (l := l) (o := o) (s0 := s0) (d := d) (n := n) (s := s)
          have hr := goS_r (V := V) (t := t) (lt := 104) (l := l) (o := o) (s0 := s0) (d := d) (n := n) (s := s)
          have y98 : Yd 98 = Y 98 := by rw [d2 98 (by decide) (by decide), c2 98 (by decide) (by decide), b2 98 (by decide)]
          have y3 : Yd (Q 98 3) = Y (Q 98 3) := by rw [d2 _ n69.1 n69.2.2, c2 _ n69.1 n69.2.2, b2 _ n69.2.1]
          have yo : ∀ j : Nat, j ≠ 69 → j ≠ 70 → j ≠ 71 → Yd j = Y j := fun j j1 j2 j3 => by rw [d2 j j1 j3, c2 j j1 j3, b2 j j2]
          obtain ⟨z1, k1, hx⟩ := hx
          have k1 := q_behind hs ⟨by omega, by omega⟩ k1
          rw [y98, hY8 10 (by decide)] at k1
          obtain ⟨Ye, Ze, Qe, ke, -, hx⟩ := hx
          have br := bhS_r (V 98 10) s er.1
          have br2 := bhS_r (V 98 10) s (less := goS V t 101 l o s0 d n s + goS V t 104 l o s0 d n s) (by omega)
          rw [k1, zWj ⟨by omega, by omega⟩] at ke
          obtain ⟨rfl, ⟨h2, p1, p2, p3⟩, p4, p5, p6⟩ := q_addC ke hR ⟨by omega, by omega⟩ (by omega) (by rw [y98]; exact g1) (by rw [y3]; exact g2) (by rw [y3]; omega)
          obtain ⟨z2, k2, hx⟩ := hx
          have k2 := q_behind hs ⟨by omega, by omega⟩ k2
          rw [p5 10 (by decide), y98, hY8 10 (by decide)] at k2
          obtain ⟨Yf, Zf, Qf, kf, -, hx⟩ := hx
          rw [k2, zWj ⟨by omega, by omega⟩] at kf
          have p31 := p3 (fun _ => 1)
          rw [y3] at p31
          obtain ⟨rfl, ⟨h3, r1', r2', r3'⟩, r4', r5', r6'⟩ := q_addC (h := h2) kf hR ⟨by omega, by omega⟩ (by omega) p1 p2 (by omega)
          rw [nx] at hx
          refine ih (i + 1) Yf Zf Qf (by omega) ⟨rfl, fun j hj => by rw [r6' j hj, p6 j hj]; exact hZ j hj, fun k hk => by rw [r5' k hk, p5 k hk, y98]; exact hY8 k hk, fun j j1 j2 j3 j4 j5 => by rw [r4' j j4 j5, p4 j j4 j5, yo j j1 j2 j3]; exact hY j j1 j2 j3 j4 j5, h3, r1', r2', fun L => ?_⟩ ⟨_, _, _, fun k hk => by rw [r4' 70 (by decide) (fun e => n69.2.1 e.symm), p4 70 (by decide) (fun e => n69.2.1 e.symm), d2 70 (by decide) (by decide), c2 70 (by decide) (by decide)]; exact rowb k hk⟩ hx
          have eT : zTd (V 98 13) (V 98 10) (goS V t 101 l o s0 d n) (goS V t 104 l o s0 d n) L s = 5 * L (bhS (V 98 10) s (goS V t 101 l o s0 d n s)) + 5 * L (bhS (V 98 10) s (goS V t 101 l o s0 d n s + goS V t 104 l o s0 d n s)) := by
            unfold zTd
            rw [if_neg al]
          rw [r3' L, p3 L, y3, g3 L, hT L, eT, Int.toNat_natCast, Int.toNat_natCast, Int.mul_add, Int.add_assoc, ← Int.mul_assoc, ← Int.mul_assoc, Int.mul_comm w 5]
        · rw [if_neg gd] at hx
          have de : dedS (V 98 13) s := by
            rcases hzd with ⟨-, e⟩ | ⟨e, -⟩
            · exact e
            · omega
          obtain ⟨Ye, Ze, Qe, ke, -, hx⟩ := hx
          rw [zWj ⟨by omega, by omega⟩] at ke
          obtain ⟨rfl, ⟨h2, p1, p2, p3⟩, p4, p5, p6⟩ := q_addC ke hR ⟨by omega, by omega⟩ (by omega) g1 g2 (by omega)
          rw [nx] at hx
          refine ih (i + 1) Ye Ze Qe (by omega) ⟨rfl, fun j hj => by rw [p6 j hj]; exact hZ j hj, fun k hk => by rw [p5 k hk]; exact hY8 k hk, fun j j1 j2 j3 j4 j5 => by rw [p4 j j4 j5]; exact hY j j1 j2 j3 j4 j5, h2, p1, p2, fun L => ?_⟩ ?_ hx
          · have eT : zTd (V 98 13) (V 98 10) (goS V t 101 l o s0 d n) (goS V t 104 l o s0 d n) L s = 10 * L s := by
              unfold zTd
              rw [if_pos de]
            rw [p3 L, g3 L, hT L, eT, Int.toNat_natCast, ← Int.mul_assoc, Int.mul_comm w 10]
          · obtain ⟨f, y, z, q⟩ := hW
            exact ⟨f, y, z, fun k hk => by rw [p4 70 (by decide) (fun e => n69.2.1 e.symm)]; exact q k hk⟩
  exact key 477 0 V J R (Nat.zero_le _) ⟨rfl, fun _ _ => rfl, fun _ _ => rfl, fun _ _ _ _ _ _ => rfl, 0, e5, zCl.nil z1, fun _ => rfl⟩ hw hx9
end
