-- a rota walked; answers: rota (own work)
theorem d_drawL {b : Nat} {a z : Int} {Vx Jx Vm Jm Ux Um : Nat → Nat → Int} {Rx Rm : Nat → Nat → Nat} (hb : isLa b) (hR : RLz b Vx (Vm 1)) (hT : RTx Rx Vx Vm) (hx : f_s_draw b Vx Jx Rx (a, Ux)) (hm : f_m_draws Vm Jm Rm (z, Um)) :
    a = z ∧ RLz b Ux (Um 1) ∧ RTx Rx Ux Um ∧ (∀ k : Nat, k ≠ 80 → Um 1 k = Vm 1 k) ∧ (∀ i : Nat, i ≠ 1 → Um i = Vm i) ∧ ∀ i : Nat, i ≠ b → Ux i = Vx i := by
  have bb := isLa_b hb
  have hR0 := hR
  obtain ⟨hPl, hPe, hn, hd, hx4, hs76, hs77, hs78, h79, h80⟩ := hR
  obtain ⟨e1, e2⟩ := q_sDraw hx (by rw [hx4]; exact h80)
  obtain ⟨e3, e4⟩ := q_mDraw hm h80
  rw [hx4] at e1 e2
  subst e2 e4
  refine ⟨by rw [e1, e3], hR0.cg (fun i i1 i2 => up2_c _ _ (by omega)) (fun k hk => up2_n _ _ (Or.inr (by omega))) (up2_n _ _ (Or.inr (by decide))) ?_ ?_ ?_ ?_, ?_, fun k hk => up2_n _ _ (Or.inr hk), fun i hi => up2_c _ _ hi, fun i hi => up2_c _ _ hi⟩
  · rw [up2_n _ _ (Or.inr (by decide)), up2_n _ _ (Or.inr (by decide))]; exact hd
  · rw [up2_s, up2_s]
  · rw [up2_n _ _ (Or.inr (by decide))]; exact h79
  · rw [up2_s]; exact drx_r _
  · exact hT.cg (fun i i1 i2 i3 => up2_c _ _ (by omega)) (fun i i1 i2 => up2_c _ _ (by omega))
theorem k_waters {p l : Nat} {V J X : Nat → Nat → Int} {R : Nat → Nat → Nat} (h : f_m_waters (p : Int) (l : Int) V J R X) : ∀ k : Nat, k ≠ 4 + l → k ≠ 68 + p → k ≠ 20 + l → X 1 k = V 1 k := by
  unfold f_m_waters at h
  obtain ⟨g, V1, -, F1, -, h⟩ := h
  obtain ⟨_, -, -, h⟩ := rdb_g h
  obtain ⟨_, -, -, h⟩ := rdb_g h
  obtain ⟨w, -, h⟩ := h
  obtain ⟨V6, e6, h⟩ := rdb_g h
  obtain ⟨z7, e7, h⟩ := rdb_g h
  obtain ⟨z8, e8, h⟩ := rdb_g h
  obtain ⟨V9, e9, h⟩ := rdb_g h
  obtain ⟨_, -, h⟩ := rdb_g h
  obtain ⟨_, -, h⟩ := rdb_g h
  obtain ⟨V12, e12, h⟩ := rdb_g h
  obtain ⟨_, -, h⟩ := rdb_g h
  obtain ⟨_, -, h⟩ := rdb_g h
  obtain ⟨_, -, h⟩ := rdb_g h
  obtain ⟨V16, e16, h⟩ := rdb_g h
  obtain ⟨z17, e17, h⟩ := rdb_g h
  obtain ⟨z18, e18, h⟩ := rdb_g h
  obtain ⟨V19, e19, h⟩ := rdb_g h
  rw [show ((l : Int) + 4).toNat = 4 + l by omega] at e6
  rw [show ((p : Int) + 68).toNat = 68 + p by omega] at e7 e9
  have n19 : ∀ k : Nat, k ≠ 4 + l → k ≠ 68 + p → V19 1 k = V 1 k := fun k k1 k2 => by
    rw [← e19, up2_c _ _ (by decide), ← e16, up2_c _ _ (by decide), ← e12, up2_c _ _ (by decide), ← e9, up2_n _ _ (Or.inr k2), ← e6, up2_n _ _ (Or.inr k1), F1.rw 1 (by decide) (by decide)]
  by_cases g1 : g ≤ 0
  · rw [if_pos g1] at h
    have h : X = V19 := h
    rw [h]; exact fun k k1 k2 _ => n19 k k1 k2
  · rw [if_neg g1] at h
    obtain ⟨z21, -, h⟩ := rdb_g h
    by_cases g2 : z21 = (-2)
    · rw [if_pos g2] at h
      have h : X = V19 := h
      rw [h]; exact fun k k1 k2 _ => n19 k k1 k2
    · rw [if_neg g2] at h
      obtain ⟨_, -, h⟩ := rdb_g h
      obtain ⟨V24, e24, h⟩ := rdb_g h
      have h : X = V24 := h
      rw [h]
      exact fun k k1 k2 k3 => by rw [← e24, up2_n _ _ (Or.inr (by omega))]; exact n19 k k1 k2
set_option maxRecDepth 100000 in
theorem d_walk {l : Nat} {a c : Int} {V W J Jm U X : Nat → Nat → Int} {R Rm : Nat → Nat → Nat} (hl : l < 4) (hR : RLz 39 V (W 1)) (hT : RTx R V W) (h76 : bt (W 1 76) l = 1) (h77 : ¬ bt (W 1 77) l = 1) (h79 : W 1 79 ≤ 9915) (hc : V 124 1 = c ∧ W 0 46 = c) (hA : ∀ j : Nat, (j : Int) < c → V 125 j = W 30 j ∧ (W 30 j = -1 ∨ (0 ≤ W 30 j ∧ W 30 j < 8 ∧ bt (W 1 78) (W 30 j) = 1)))
    (hx : f_s_walk 39 (l : Int) V J R (a, U)) (hm : f_m_goesByRota (l : Int) W Jm Rm X) : a = X 0 49 ∧ U (39 + 3 + 2 * l) 2 = X 0 50 := by
  unfold f_s_walk at hx
  unfold f_m_goesByRota at hm
  obtain ⟨W1, f1, hm⟩ := rdb_g hm
  obtain ⟨W2, f2, hm⟩ := rdb_g hm
  have w2 : ∀ i : Nat, i ≠ 0 → i ≠ 2 → W2 i = W i := fun i i1 i2 => by rw [← f2, up2_c _ _ i1, ← f1, cpN_n i2]
  have w20 : ∀ k : Nat, k ≠ 49 → W2 0 k = W 0 k := fun k hk => by rw [← f2, up2_n _ _ (Or.inr hk), ← f1, cpN_n (by decide)]
  have w249 : W2 0 49 = -2 := by rw [← f2, up2_s]
  obtain ⟨bX, hbX, hx9⟩ := lop2_g hx
  obtain ⟨bM, hbM, hm9⟩ := lop2_g hm
  have out : ∀ V9 : Nat → Nat → Int, (rdb (V9 1 (((l : Int) + 4).toNat)) fun z744 => fct (0 ≤ z744 ∧ z744 ≤ 24) <| rdb (up2 V9 0 50 z744) fun V745 => rdb (cpN V745 2 1 81) fun V746 => rtn V746) X → X 0 49 = V9 0 49 ∧ X 0 50 = V9 1 (4 + l) := by
    intro V9 h
    obtain ⟨t, et, -, h⟩ := rdb_g h
    obtain ⟨V10, e10, h⟩ := rdb_g h
    obtain ⟨V11, e11, h⟩ := rdb_g h
    have h : X = V11 := h
    rw [show ((l : Int) + 4).toNat = 4 + l by omega] at et
    rw [h, ← e11, cpN_n (by decide), ← e10]
    exact ⟨by rw [up2_n _ _ (Or.inr (by decide))], by rw [up2_s, et]⟩
  have key : ∀ (n m : Nat) (z : Int) (V9 W9 : Nat → Nat → Int), 0 ≤ z → RLz 39 V9 (W9 1) → RTx R V9 W9 → bt (W9 1 76) l = 1 → ¬ bt (W9 1 77) l = 1 → W9 1 79 ≤ 9915 + z → W9 1 78 = W 1 78 → (V9 124 1 = c ∧ W9 0 46 = c) → (V9 125 = V 125 ∧ W9 30 = W 30) → W9 0 49 = -2 → lop2 n bX z V9 (a, U) → lop2 m bM z W9 X → a = X 0 49 ∧ U (39 + 3 + 2 * l) 2 = X 0 50 := by
    intro n
    induction n with
    | zero => intro m z V9 W9 _ _ _ _ _ _ _ _ _ _ hx; exact False.elim hx
    | succ n ih =>
      intro m z V9 W9 hz r1 r2 r76 r77 r79 r78 rc rA r49 hx hm
      cases m with
      | zero => exact False.elim hm
      | succ m =>
        rw [lop2_s hbX] at hx
        rw [lop2_s hbM] at hm
        obtain ⟨t1, e1, tr1, hx⟩ := rdb_g hx
        obtain ⟨u1, g1, -, hm⟩ := rdb_g hm
        have et1 : t1 = c := by rw [← e1]; exact rc.1
        have eu1 : u1 = c := by rw [← g1]; exact rc.2
        have hm := jnk_d hm
        by_cases gz : c ≤ z
        · rw [if_pos (by omega)] at hx hm
          simp only [rtn, Prod.mk.injEq] at hx
          obtain ⟨o1, o2⟩ := out W9 hm
          rw [hx.1, hx.2, o1, o2, r49]
          exact ⟨rfl, (r1.1 l hl).2.2.1⟩
        · rw [if_neg (by omega)] at hx hm
          obtain ⟨y, hy, -, hm⟩ := hm
          have hy := q_mLives hy
          have hy0 : ¬ y = 0 := fun hh => hy.off hh ⟨⟨by omega, by omega, r76⟩, r77⟩
          rw [if_neg hy0] at hm
          obtain ⟨_, -, -, hm⟩ := rdb_g hm
          obtain ⟨_, -, -, hm⟩ := rdb_g hm
          obtain ⟨q, eq, hx⟩ := rdb_g hx
          obtain ⟨q2, eq2, -, hm⟩ := rdb_g hm
          obtain ⟨ha1, ha2⟩ := hA z.toNat (by omega)
          rw [rA.1] at eq
          rw [rA.2] at eq2
          have eqq : q2 = q := by rw [← eq, ← eq2, ha1]
          rw [eqq] at hm
          rw [← ha1, eq] at ha2
          obtain ⟨Va, ka, Fa, hx⟩ := hx
          -- behind the giving
          have aft : ∀ (Wa : Nat → Nat → Int), RLz 39 Va (Wa 1) → RTx R Va Wa → bt (Wa 1 76) l = 1 → ¬ bt (Wa 1 77) l = 1 → Wa 1 79 = W9 1 79 → Wa 1 78 = W9 1 78 → (Wa 0 46 = W9 0 46 ∧ Wa 0 49 = W9 0 49) → Wa 30 = W9 30 →
              (calVM 36893488147419103232 Wa (f_m_draws Wa Jm Rm) fun z755 V755 => jnk (fun (z756 : Int) => calUM 7253591811175922467340288 V755 (f_m_dries (l : Int) z756 V755 Jm Rm) fun V758 => calR (f_m_lives (l : Int) V758 Jm Rm) fun z759 => fct (0 ≤ z759 ∧ z759 ≤ 1) <| jnk (fun (V764 : Nat → Nat → Int) => rdb (V764 1 79) fun z765 => rdb (wr (z765 + 1)) fun z766 => rdb (up2 V764 1 79 z766) fun V767 => lop2 m bM (z + 1) V767) fun jf764 => (if ¬ z759 = 0 then rdb (V758 1 (((l : Int) + 12).toNat)) fun z770 => fct (0 ≤ z770 ∧ z770 ≤ 8) <| rdb (V758 1 (((l : Int) + 16).toNat)) fun z771 => fct (0 ≤ z771 ∧ z771 ≤ 8) <| jf764 V758 else rdb (up2 V758 0 49 z) fun V772 => jf764 V772)) fun jf757 => (if 5 ≤ z755 then jf757 0 else jf757 1)) X → a = X 0 49 ∧ U (39 + 3 + 2 * l) 2 = X 0 50 := by
            intro Wa s1 s2 s76 s77 s79 s78 s0 s30 hm
            obtain ⟨d, Vb, kb, Fb, hx⟩ := hx
            obtain ⟨d2, Wb, jb, Gb, hm⟩ := hm
            obtain ⟨x1, x2, x3, x4, x5, x6⟩ := d_drawL (Or.inr (Or.inr rfl)) s1 s2 kb jb
            subst x1
            have hx := jnk_if hx
            have hm := jnk_if hm
            obtain ⟨Vc, kc, Fc, hx⟩ := hx
            obtain ⟨Wc, jc, Gc, hm⟩ := hm
            obtain ⟨d1, -, d2', ⟨d3, d4⟩, d5⟩ := d_endL (Or.inr (Or.inr rfl)) hl x2 x3 (by rw [x4 76 (by decide)]; exact s76) (by rw [x4 77 (by decide)]; exact s77) kc jc
            obtain ⟨t2, et2, hx⟩ := rdb_g hx
            obtain ⟨t3, et3, hx⟩ := rdb_g hx
            obtain ⟨Vd, ed, hx⟩ := rdb_g hx
            obtain ⟨cc, ecc, hx⟩ := rdb_g hx
            rw [Int.toNat_natCast] at ecc
            obtain ⟨dd, hdd, -, hx⟩ := hx
            have hdd := q_sDead hdd
            obtain ⟨v, hv, -, hm⟩ := hm
            have hv := q_mLives hv
            have hm := jnk_d hm
            have vdc : Vd cc = Vc cc := by rw [← ed, up2_c _ _ (by omega)]
            have vdo : ∀ i : Nat, i ≠ 39 → Vd i = Vc i := fun i hi => by rw [← ed, up2_c _ _ hi]
            have vd39 : Vd 39 = up1 (Vc 39) 3 t3 := by rw [← ed, up2_row]
            rw [vdc] at hdd
            have hP := d1.1 l hl
            rw [ecc] at hP
            have hd8 := hP.2.2.2.2.2.2.2.2.1
            have t76 : bt (Wc 1 76) l = 1 := by rw [k_dries hl jc 76 (by decide) (by decide), x4 76 (by decide)]; exact s76
            have h0 := d1.2.2.2.2.2.2.2.2.1
            have e79 : Wc 1 79 = W9 1 79 := by rw [d4, x4 79 (by decide), s79]
            have ew : wr (Wc 1 79 + 1) = Wc 1 79 + 1 := wr_id ⟨by omega, by omega⟩
            have et3' : t3 = Wc 1 79 + 1 := by rw [← et3, ← et2, d1.2.2.2.1]; exact ew
            by_cases gd : dedX (Vc cc)
            · have dd1 : dd = 1 := by
                rcases hdd with ⟨k, -⟩ | ⟨-, k⟩
                · exact k
                · exact absurd gd k
              have v0 : v = 0 := by
                rcases hv with ⟨-, k⟩ | ⟨k, -⟩
                · exact absurd (hd8.mpr gd) k.2
                · exact k
              rw [if_neg (by omega)] at hx
              rw [if_neg (fun hh => hh v0)] at hm
              simp only [rtn, Prod.mk.injEq] at hx
              obtain ⟨We, fe, hm⟩ := rdb_g hm
              obtain ⟨p1, fp1, hm⟩ := rdb_g hm
              obtain ⟨p2, fp2, hm⟩ := rdb_g hm
              obtain ⟨Wf, ff, hm⟩ := rdb_g hm
              -- one round more: it is dead
              have wf0 : Wf 0 = up1 (Wc 0) 49 z := by rw [← ff, up2_c _ _ (by decide), ← fe, up2_row]
              have wf1 : ∀ k : Nat, k ≠ 79 → Wf 1 k = Wc 1 k := fun k hk => by rw [← ff, up2_n _ _ (Or.inr hk), ← fe, up2_c _ _ (by decide)]
              have fin : X 0 49 = Wf 0 49 ∧ X 0 50 = Wf 1 (4 + l) := by
                cases m with
                | zero => exact False.elim hm
                | succ m =>
                  rw [lop2_s hbM] at hm
                  obtain ⟨u2, g2, -, hm⟩ := rdb_g hm
                  have hm := jnk_d hm
                  by_cases gu : u2 ≤ z + 1
                  · rw [if_pos gu] at hm
                    exact out Wf hm
                  · rw [if_neg gu] at hm
                    obtain ⟨y2, hy2, -, hm⟩ := hm
                    have hy2 := q_mLives hy2
                    have y20 : y2 = 0 := by
                      rcases hy2 with ⟨-, k⟩ | ⟨k, -⟩
                      · have k2 := k.2
                        rw [wf1 77 (by decide)] at k2
                        exact absurd (hd8.mpr gd) k2
                      · exact k
                    rw [if_pos y20] at hm
                    exact out Wf hm
              rw [hx.1, hx.2, fin.1, fin.2, wf0, up1_at, wf1 (4 + l) (by omega), ecc, vdc]
              exact ⟨rfl, hP.2.2.1⟩
            · have dd0 : dd = 0 := by
                rcases hdd with ⟨-, k⟩ | ⟨k, -⟩
                · exact absurd k gd
                · exact k
              have n77 : ¬ bt (Wc 1 77) l = 1 := fun hh => gd (hd8.mp hh)
              have v1 : ¬ v = 0 := by
                rcases hv with ⟨k, -⟩ | ⟨-, k⟩
                · omega
                · exact absurd ⟨⟨by omega, by omega, t76⟩, n77⟩ k
              rw [if_pos dd0] at hx
              rw [if_pos v1] at hm
              obtain ⟨_, -, -, hm⟩ := rdb_g hm
              obtain ⟨_, -, -, hm⟩ := rdb_g hm
              obtain ⟨p1, fp1, hm⟩ := rdb_g hm
              obtain ⟨p2, fp2, hm⟩ := rdb_g hm
              obtain ⟨Wf, ff, hm⟩ := rdb_g hm
              have ep2 : p2 = Wc 1 79 + 1 := by rw [← fp2, ← fp1]; exact ew
              have wfo : ∀ i : Nat, i ≠ 1 → Wf i = Wc i := fun i hi => by rw [← ff, up2_c _ _ hi]
              have wf1 : Wf 1 = up1 (Wc 1) 79 p2 := by rw [← ff, up2_row]
              have wfk : ∀ k : Nat, k ≠ 79 → Wf 1 k = Wc 1 k := fun k hk => by rw [wf1, up1_of hk]
              have wf79 : Wf 1 79 = p2 := by rw [wf1, up1_at]
              have c124 : ∀ i : Nat, i = 124 ∨ i = 125 → Vd i = V9 i := fun i hi => by
                rw [vdo i (by omega), show Vc i = Vb i from funext fun k => Fc i k (by omega), x6 i (by omega)]
                exact funext fun k => Fa i k (by omega)
              have w30 : Wf 30 = W9 30 := by rw [wfo 30 (by decide), Gc.rw 30 (by decide) (by decide), x5 30 (by decide), s30]
              have w0 : ∀ q : Nat, q = 46 ∨ q = 49 → Wf 0 q = Wa 0 q := fun q hq => by
                rw [wfo 0 (by decide)]
                rcases hq with rfl | rfl
                · rw [Gc.fl 46 (by decide), x5 0 (by decide)]
                · rw [Gc.fl 49 (by decide), x5 0 (by decide)]
              refine ih m (z + 1) Vd Wf (by omega) ?_ (d2'.cg (fun i i1 i2 i3 => vdo i (by omega)) (fun i i1 i2 => wfo i (by omega))) (by rw [wfk 76 (by decide)]; exact t76) (by rw [wfk 77 (by decide)]; exact n77) (by rw [wf79, ep2, e79]; omega) (by rw [wfk 78 (by decide), d3, x4 78 (by decide), s78, r78]) ⟨by rw [c124 124 (Or.inl rfl)]; exact rc.1, by rw [w0 46 (Or.inl rfl), s0.1]; exact rc.2⟩ ⟨by rw [c124 125 (Or.inr rfl)]; exact rA.1, by rw [w30]; exact rA.2⟩ (by rw [w0 49 (Or.inr rfl), s0.2]; exact r49) hx hm
              exact d1.cg (fun i i1 i2 => vdo i (by omega)) (fun k hk => wfk k (by omega)) (by rw [vd39, up1_of (by decide)]) (by rw [vd39, up1_at, wf79, et3', ep2]) (by rw [vd39, up1_of (by decide), wfk 80 (by decide)]; exact d1.2.2.2.2.1) (by rw [wf79, ep2]; omega) (by rw [wfk 80 (by decide)]; exact d1.2.2.2.2.2.2.2.2.2)
          by_cases gq : q = (-1)
          · rw [if_pos gq] at hm
            -- nobody
            have eVa : Va = V9 := by
              unfold f_s_giveTo at ka
              obtain ⟨p, hp, -, ka⟩ := ka
              have hp := q_sPerson hp
              have p0 : p = 0 := by
                rcases hp with ⟨-, k⟩ | ⟨k, -⟩
                · omega
                · exact k
              rw [if_pos p0] at ka
              exact ka
            exact aft W9 (by rw [eVa]; exact r1) (by rw [eVa]; exact r2) r76 r77 rfl rfl ⟨rfl, rfl⟩ rfl hm
          · rw [if_neg gq] at hm
            have hq8 := ha2.resolve_left gq
            obtain ⟨p, rfl⟩ : ∃ p : Nat, q = (p : Int) := ⟨q.toNat, by omega⟩
            obtain ⟨Wa, ja, Ga, hm9⟩ := hm
            obtain ⟨g1', -, g2', g3', g4'⟩ := d_giveL (Or.inr (Or.inr rfl)) (by omega) hl r1 r2 (by rw [r78]; exact hq8.2.2) r76 r77 ka ja
            have kw := k_waters ja
            exact aft Wa g1' g2' (by rw [kw 76 (by omega) (by omega) (by omega)]; exact r76) (by rw [kw 77 (by omega) (by omega) (by omega)]; exact r77) g4' g3' ⟨Ga.fl 46 (by decide), Ga.fl 49 (by decide)⟩ (Ga.rw 30 (by decide) (by decide)) hm9
  exact key _ _ 0 V W2 (by omega) (by rw [w2 1 (by decide) (by decide)]; exact hR) (hT.cg (fun _ _ _ _ => rfl) (fun i i1 i2 => w2 i (by omega) (by omega))) (by rw [w2 1 (by decide) (by decide)]; exact h76) (by rw [w2 1 (by decide) (by decide)]; exact h77) (by rw [w2 1 (by decide) (by decide)]; omega) (by rw [w2 1 (by decide) (by decide)]) ⟨hc.1, by rw [w20 46 (by decide)]; exact hc.2⟩ ⟨rfl, w2 30 (by decide) (by decide)⟩ w249 hx9 hm9
