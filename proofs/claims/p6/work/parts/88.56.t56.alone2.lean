-- answers: alone, the sets and the tenths (own work)
theorem q_worth {s a b : Int} {z : Nat} {V W J Jm : Nat → Nat → Int} {R Rm : Nat → Nat → Nat} (hp : V 67 z = W 31 z ∧ V 68 z = W 32 z) (hx : f_s_worthOf s (z : Int) V J R a) (hm : f_m_gainOf s (z : Int) W Jm Rm b) : a = b := by
  unfold f_s_worthOf at hx
  unfold f_m_gainOf at hm
  obtain ⟨y, hy, -, hm⟩ := hm
  have hy := q_has hy
  by_cases g : ¬ s = 0
  · rw [if_pos g] at hx
    obtain ⟨w, ew, hx⟩ := rdb_g hx
    obtain ⟨t, et, hx⟩ := rdb_g hx
    obtain ⟨u, eu, -, hx⟩ := rdb_g hx
    rw [Int.toNat_natCast, hp.2] at ew
    have ey : u = y := by rw [hy, ← eu, ← et]; rfl
    have br := bt_r s z
    by_cases g1 : ¬ u = 1
    · rw [if_pos g1] at hx
      rw [if_pos (by omega), if_pos g] at hm
      have hx : a = w := hx
      have hm : b = W 32 (z : Int).toNat := hm
      rw [hx, hm, ← ew, Int.toNat_natCast]
    · rw [if_neg g1] at hx
      rw [if_neg (by omega)] at hm
      obtain ⟨c, ec, hx⟩ := rdb_g hx
      have hx : a = wr (w - c) := hx
      have hm : b = wr (W 32 (z : Int).toNat - W 31 (z : Int).toNat) := hm
      rw [Int.toNat_natCast] at ec hm
      rw [hx, hm, ← ew, ← ec, hp.1]
  · rw [if_neg g] at hx
    have es : s = 0 := by omega
    have y0 : y = 0 := by
      rw [hy, es]
      rcases (show bt 0 (z : Int) = 0 ∨ bt 0 (z : Int) = 1 by have := bt_r 0 (z : Int); omega) with q | q
      · exact q
      · exfalso
        have e0 : iShr 0 (z : Int) = 0 := by
          unfold iShr
          rw [show Int32.ofInt 0 = 0 by decide, Int32.zero_shiftRight]
          decide
        unfold bt at q
        rw [e0] at q
        exact absurd q (by decide)
    rw [if_pos y0, if_neg g] at hm
    have hx : a = 0 := hx
    have hm : b = 0 := hm
    rw [hx, hm]
theorem e_alone {x y a b : Int} {V V2 J W Jm X : Nat → Nat → Int} {R Rm : Nat → Nat → Nat} (h : WR R V W) (hx : f_s_alone x y V J R (a, V2)) (hm : f_m_alone x y W Jm Rm (b, X)) : a = b := by
  have same : ∀ {c : Int} {V3 W3 : Nat → Nat → Int}, rtn (c, V3) (a, V2) → rtn (c, W3) (b, X) → a = b := fun h1 h2 => by
    simp only [rtn, Prod.mk.injEq] at h1 h2
    rw [h1.1, h2.1]
  unfold f_s_alone at hx
  unfold f_m_alone at hm
  obtain ⟨z1, h1, -, hx⟩ := hx
  obtain ⟨y1, k1, -, hm⟩ := hm
  have h1 := q_sWithin h1
  have e1 : z1 = y1 := h1.eq (q_mIn k1) Iff.rfl
  subst e1
  by_cases g1 : z1 = 0
  · rw [if_pos g1] at hx hm; exact same hx hm
  rw [if_neg g1] at hx hm
  have q1 := h1.on g1
  obtain ⟨z4, h4, -, hx⟩ := hx
  obtain ⟨y4, k4, -, hm⟩ := hm
  have h4 := q_sWithin h4
  have e4 : z4 = y4 := h4.eq (q_mIn k4) Iff.rfl
  subst e4
  by_cases g4 : z4 = 0
  · rw [if_neg (fun hh => hh g4)] at hx hm; exact same hx hm
  rw [if_pos g4] at hx hm
  clear h1 k1 h4 k4
  obtain ⟨n, rfl⟩ : ∃ n : Nat, x = (n : Int) := ⟨x.toNat, by omega⟩
  obtain ⟨V7, k7, -, hx9⟩ := hx
  obtain ⟨W7, j7, -, hm9⟩ := hm
  have hp := al_prices (by omega) h k7 j7
  by_cases g2 : ¬ y = 2
  · rw [if_pos g2] at hx9 hm9
    obtain ⟨bX, hbX, hxA⟩ := lop3_g hx9
    obtain ⟨bM, hbM, hmA⟩ := lop3_g hm9
    have key : ∀ (f g : Nat) (s first count : Int), (first = -2 ↔ count = 0) → 0 ≤ s → (0 ≤ count ∧ count ≤ s) → lop3 f bX s first count (a, V2) → lop3 g bM s first count (b, X) → a = b := by
      intro f
      induction f with
      | zero => intro g s first count _ _ _ hx; exact False.elim hx
      | succ f ih =>
        intro g s first count hfc hs hc hx hm
        cases g with
        | zero => exact False.elim hm
        | succ g =>
          rw [lop3_s hbX] at hx
          rw [lop3_s hbM] at hm
          obtain ⟨p, ep, hx⟩ := rdb_g hx
          obtain ⟨p2, ep2, hm⟩ := rdb_g hm
          have epp : p2 = p := by rw [← ep, ← ep2]
          subst epp
          have pb : p2 ≤ 64 := by
            rw [← ep]
            have d : ∀ n : Nat, n ≤ 6 → iShl 1 (n : Int) ≤ 64 := by decide
            exact d n (by omega)
          by_cases gp : p2 ≤ s
          · rw [if_pos gp] at hx hm
            by_cases gy : ¬ y = 0
            · rw [if_pos gy] at hx hm; exact same hx hm
            · rw [if_neg gy] at hx hm; exact same hx hm
          · rw [if_neg gp] at hx hm
            obtain ⟨w, hw, -, hx⟩ := hx
            have hx := jnk_d hx
            -- does somebody gain
            unfold f_s_nobodyGains at hw
            obtain ⟨cX, hcX, hwA⟩ := lop1_g hw
            obtain ⟨cM, hcM, hmB⟩ := lop2_g hm
            have wc : wr (count + 1) = count + 1 := wr_id ⟨by omega, by omega⟩
            have fin1 : w = 1 → (jnk (fun (z3289 : Int) (z3290 : Int) => lop3 g bM (s + 1) z3290 z3289) fun jf3291 => jnk (fun (z3293 : Int) => rdb (wr (count + 1)) fun z3295 => jf3291 z3295 z3293) fun jf3294 => (if ¬ count = 0 then jf3294 first else jf3294 s)) (b, X) → a = b := by
              intro hw1 hm
              rw [if_neg (by omega)] at hx
              obtain ⟨c2, ec2, hx⟩ := rdb_g hx
              have hx := jnk_d hx
              have hm := jnk_d (jnk_d hm)
              rw [wc] at ec2
              by_cases gf : first = (-2)
              · rw [if_neg (fun hh => hh gf)] at hx
                rw [if_neg (fun hh => hh (hfc.mp gf))] at hm
                obtain ⟨c3, ec3, hm⟩ := rdb_g hm
                rw [wc] at ec3
                rw [← ec2] at hx
                rw [← ec3] at hm
                exact ih g (s + 1) _ _ (by omega) (by omega) (by omega) hx hm
              · rw [if_pos gf] at hx
                rw [if_pos (fun hh => gf (hfc.mpr hh))] at hm
                obtain ⟨c3, ec3, hm⟩ := rdb_g hm
                rw [wc] at ec3
                rw [← ec2] at hx
                rw [← ec3] at hm
                exact ih g (s + 1) _ _ (by omega) (by omega) (by omega) hx hm
            have fin0 : w = 0 → lop3 g bM (s + 1) first count (b, X) → a = b := by
              intro hw0 hm
              rw [if_pos hw0] at hx
              exact ih g (s + 1) _ _ hfc (by omega) (by omega) hx hm
            have inn : ∀ (c d z : Nat), z ≤ n → lop1 c cX (z : Int) w → lop2 d cM (z : Int) 1 (b, X) → a = b := by
              intro c
              induction c with
              | zero => intro d z _ hw; exact False.elim hw
              | succ c ih2 =>
                intro d z hz hw hm
                cases d with
                | zero => exact False.elim hm
                | succ d =>
                  rw [lop1_s hcX] at hw
                  rw [lop2_s hcM] at hm
                  have hm := jnk_d hm
                  by_cases gz : (n : Int) ≤ z
                  · rw [if_pos gz] at hw hm
                    have hm := jnk_d hm
                    rw [if_pos (by decide)] at hm
                    exact fin1 hw hm
                  · rw [if_neg gz] at hw hm
                    rw [if_neg (by decide)] at hm
                    obtain ⟨t1, et1, hw⟩ := rdb_g hw
                    obtain ⟨t2, et2, hw⟩ := rdb_g hw
                    obtain ⟨u1, hu1, hw⟩ := hw
                    obtain ⟨u2, hu2, hw⟩ := hw
                    obtain ⟨r1, er1, hm⟩ := rdb_g hm
                    obtain ⟨r2, er2, hm⟩ := rdb_g hm
                    obtain ⟨o1, ho1, hm⟩ := hm
                    obtain ⟨o2, ho2, hm⟩ := hm
                    have hm := jnk_d hm
                    have e2 : r2 = t2 := by rw [← er2, ← et2, ← er1, ← et1]
                    rw [e2] at ho1
                    have x1 := q_worth (hp z (by omega)) hu1 ho1
                    have x2 := q_worth (hp z (by omega)) hu2 ho2
                    subst x1 x2
                    by_cases gw : u1 ≤ u2
                    · rw [if_pos gw] at hw
                      rw [if_neg (by omega)] at hm
                      exact ih2 d (z + 1) (by omega) (by rw [Int.natCast_add]; exact hw) (by rw [Int.natCast_add]; exact hm)
                    · rw [if_neg gw] at hw
                      rw [if_pos (by omega)] at hm
                      have hm : lop2 d cM ((z : Int) + 1) 0 (b, X) := hm
                      cases d with
                      | zero => exact False.elim hm
                      | succ d =>
                        rw [lop2_s hcM] at hm
                        have hm := jnk_d hm
                        have z0 : ∀ {P Q : Int × (Nat → Nat → Int) → Prop}, (jnk (fun (z3289 : Int) (z3290 : Int) => lop3 g bM (s + 1) z3290 z3289) fun jf3291 => (if ¬ (0 : Int) = 0 then jnk (fun (z3293 : Int) => rdb (wr (count + 1)) fun z3295 => jf3291 z3295 z3293) fun jf3294 => (if ¬ count = 0 then jf3294 first else jf3294 s) else jf3291 count first)) (b, X) → a = b := fun {P Q} hm => by
                          have hm := jnk_d hm
                          rw [if_neg (by decide)] at hm
                          exact fin0 hw hm
                        by_cases gz2 : (n : Int) ≤ (z : Int) + 1
                        · rw [if_pos gz2] at hm
                          exact z0 (P := fun _ => True) (Q := fun _ => True) hm
                        · rw [if_neg gz2, if_pos rfl] at hm
                          exact z0 (P := fun _ => True) (Q := fun _ => True) hm
            exact inn _ _ 0 (by omega) hwA hmB
    exact key _ _ 0 (-2) 0 (by omega) (by omega) (by omega) hxA hmA
  · rw [if_neg g2] at hx9 hm9
    obtain ⟨w, hw, hx9⟩ := hx9
    simp only [rtn, Prod.mk.injEq] at hx9
    rw [hx9.1]
    unfold f_s_evenTenths at hw
    obtain ⟨bX, hbX, hwA⟩ := lop1_g hw
    obtain ⟨bM, hbM, hmA⟩ := lop1_g hm9
    have key : ∀ (f g : Nat) (t : Int), (-1 ≤ t ∧ t ≤ 10) → lop1 f bX t w → lop1 g bM t (b, X) → w = b := by
      intro f
      induction f with
      | zero => intro g t _ hx; exact False.elim hx
      | succ f ih =>
        intro g t ht hx hm
        cases g with
        | zero => exact False.elim hm
        | succ g =>
          rw [lop1_s hbX] at hx
          rw [lop1_s hbM] at hm
          have hm := jnk_d hm
          by_cases gt : t < 0
          · rw [if_pos gt] at hx hm
            have hm : (if 0 ≤ t then rtn (t, W7) else rtn ((-2), W7)) (b, X) := hm
            rw [if_neg (by omega)] at hm
            simp only [rtn, Prod.mk.injEq] at hm
            have hx : w = -2 := hx
            rw [hx, hm.1]
          · rw [if_neg gt] at hx hm
            obtain ⟨v, hv, -, hm⟩ := hm
            unfold f_m_waterBy at hv
            obtain ⟨cX, hcX, hxB⟩ := lop2_g hx
            obtain ⟨cM, hcM, hvB⟩ := lop2_g hv
            -- what comes behind the check
            have yes : v = 1 → w = t → w = b := fun hv1 hwt => by
              rw [if_pos (by omega)] at hm
              have hm : (if 0 ≤ t then rtn (t, W7) else rtn ((-2), W7)) (b, X) := hm
              rw [if_pos (by omega)] at hm
              simp only [rtn, Prod.mk.injEq] at hm
              rw [hwt, hm.1]
            have no : v = 0 → lop1 f bX (t - 1) w → w = b := fun hv0 hx => by
              rw [if_neg (fun hh => hh hv0)] at hm
              exact ih g (t - 1) (by omega) hx hm
            have pow : ∀ (c d : Nat) (z q : Int), lop2 c cX z q w → lop2 d cM z q v → w = b := by
              intro c
              induction c with
              | zero => intro d z q hx; exact False.elim hx
              | succ c ih2 =>
                intro d z q hx hv
                cases d with
                | zero => exact False.elim hv
                | succ d =>
                  rw [lop2_s hcX] at hx
                  rw [lop2_s hcM] at hv
                  by_cases gz : (n : Int) ≤ z
                  · rw [if_pos gz] at hx hv
                    obtain ⟨dX, hdX, hxC⟩ := lop2_g hx
                    obtain ⟨dM, hdM, hvC⟩ := lop1_g hv
                    -- once it fails, it fails
                    have bad : ∀ (e i : Nat), v = 0 → lop2 e dX (i : Int) 0 w → w = b := by
                      intro e
                      induction e with
                      | zero => intro i _ hx; exact False.elim hx
                      | succ e ih3 =>
                        intro i hv0 hx
                        rw [lop2_s hdX] at hx
                        by_cases gi : (n : Int) ≤ i
                        · rw [if_pos gi, if_pos rfl] at hx
                          exact no hv0 hx
                        · rw [if_neg gi] at hx
                          obtain ⟨_, -, hx⟩ := rdb_g hx
                          obtain ⟨_, -, hx⟩ := rdb_g hx
                          obtain ⟨_, -, hx⟩ := rdb_g hx
                          obtain ⟨_, -, hx⟩ := hx
                          obtain ⟨_, -, hx⟩ := rdb_g hx
                          have hx := jnk_d hx
                          have z0 : ∀ m : Int, (m = 0 ∨ m = 1) → (rdb (iAnd 0 m) fun z9375 => fct (0 ≤ z9375 ∧ z9375 ≤ 1) <| lop2 e dX ((i : Int) + 1) z9375) w → w = b := fun m hm0 hx => by
                            obtain ⟨o, eo, -, hx⟩ := rdb_g hx
                            have e0 : o = 0 := by
                              rcases hm0 with hm0 | hm0
                              · rw [← eo, hm0]; decide
                              · rw [← eo, hm0]; decide
                            rw [e0] at hx
                            exact ih3 (i + 1) hv0 (by rw [Int.natCast_add]; exact hx)
                          split at hx
                          · exact z0 0 (Or.inl rfl) hx
                          · exact z0 1 (Or.inr rfl) hx
                    have good : ∀ (e e2 i : Nat), i ≤ n → lop2 e dX (i : Int) 1 w → lop1 e2 dM (i : Int) v → w = b := by
                      intro e
                      induction e with
                      | zero => intro e2 i _ hx; exact False.elim hx
                      | succ e ih3 =>
                        intro e2 i hi hx hv
                        cases e2 with
                        | zero => exact False.elim hv
                        | succ e2 =>
                          rw [lop2_s hdX] at hx
                          rw [lop1_s hdM] at hv
                          by_cases gi : (n : Int) ≤ i
                          · rw [if_pos gi] at hx hv
                            rw [if_neg (by decide)] at hx
                            exact yes hv hx
                          · rw [if_neg gi] at hx hv
                            obtain ⟨a1, ea1, hx⟩ := rdb_g hx
                            obtain ⟨a2, ea2, hx⟩ := rdb_g hx
                            obtain ⟨a3, ea3, hx⟩ := rdb_g hx
                            obtain ⟨a4, ha4, hx⟩ := hx
                            obtain ⟨a5, ea5, hx⟩ := rdb_g hx
                            have hx := jnk_d hx
                            obtain ⟨c1, ec1, hv⟩ := rdb_g hv
                            obtain ⟨c2, hc2, -, hv⟩ := hv
                            obtain ⟨c3, ec3, hv⟩ := rdb_g hv
                            obtain ⟨c4, ec4, hv⟩ := rdb_g hv
                            obtain ⟨c5, ec5, hv⟩ := rdb_g hv
                            rw [Int.toNat_natCast] at ea1 ea3 ec1 ec4
                            have hpi := hp i (by omega)
                            rw [show (n : Int) - 1 = ((n - 1 : Nat) : Int) by omega] at ha4 hc2
                            have p1 := q_power (by omega) ha4
                            have p2 := q_tens hc2
                            have x2 : a2 = c5 := by rw [← ea2, ← ec5, ← ea1, ← ec4, hpi.2]
                            have x5 : a5 = c3 := by rw [← ea5, ← ec3, ← ea3, ← ec1, hpi.1, p1, p2]
                            have lt : lcI a2 a5 < 0 ↔ a2 < a5 := by
                              unfold lcI
                              by_cases g1 : a5 < a2
                              · rw [if_pos g1]; omega
                              · rw [if_neg g1]
                                by_cases g2 : a2 = a5
                                · rw [if_pos g2]; omega
                                · rw [if_neg g2]; omega
                            have le : lcI c3 c5 ≤ 0 ↔ c3 ≤ c5 := by
                              unfold lcI
                              by_cases g1 : c5 < c3
                              · rw [if_pos g1]; omega
                              · rw [if_neg g1]
                                by_cases g2 : c3 = c5
                                · rw [if_pos g2]; omega
                                · rw [if_neg g2]; omega
                            have nx : ∀ m : Int, iAnd 1 m = m → (rdb (iAnd 1 m) fun z9375 => fct (0 ≤ z9375 ∧ z9375 ≤ 1) <| lop2 e dX ((i : Int) + 1) z9375) w → lop2 e dX ((i : Int) + 1) m w := fun m hm1 hx => by
                              obtain ⟨o, eo, -, hx⟩ := rdb_g hx
                              rw [← eo, hm1] at hx
                              exact hx
                            by_cases gl : lcI a2 a5 < 0
                            · rw [if_pos gl] at hx
                              rw [if_neg (by omega)] at hv
                              have hx := nx 0 (by decide) hx
                              exact bad e (i + 1) hv (by rw [Int.natCast_add]; exact hx)
                            · rw [if_neg gl] at hx
                              rw [if_pos (by omega)] at hv
                              have hx := nx 1 (by decide) hx
                              exact ih3 e2 (i + 1) (by omega) (by rw [Int.natCast_add]; exact hx) (by rw [Int.natCast_add]; exact hv)
                    exact good _ _ 0 (by omega) hxC hvC
                  · rw [if_neg gz] at hx hv
                    obtain ⟨a1, ea1, hx⟩ := rdb_g hx
                    obtain ⟨c1, ec1, hv⟩ := rdb_g hv
                    obtain ⟨c2, ec2, hv⟩ := rdb_g hv
                    have w10 : wr (-t + 10) = -t + 10 := wr_id ⟨by omega, by omega⟩
                    rw [w10] at ec1
                    have e12 : a1 = c2 := by rw [← ea1, ← ec2, ← ec1]
                    rw [e12] at hx
                    exact ih2 d (z + 1) c2 hx hv
            exact pow _ _ 1 1 hxB hvB
    exact key _ _ 10 (by omega) hwA hmA
