-- a rota read: from its first sign to its last (own work)
set_option maxRecDepth 100000 in
theorem rj_reads {x a z : Int} {V0 V2 W0 X J Jm : Nat → Nat → Int} {R Rm : Nat → Nat → Nat} (hT : TP V0 W0) (hl : W0 0 6 = x ∧ x ≤ W0 0 4) (hx90 : 1 ≤ x ∧ x ≤ 90) (hR : RLz 1 V0 (W0 1))
    {A : Nat} {k pos w c : Int} {V W : Nat → Nat → Int} (hk : 0 ≤ k ∧ k ≤ pos) (hp : pos ≤ x) (hw : 0 ≤ w ∧ w ≤ 12) (hc : c = 7 * w) (hS : RWS W0 W pos c w) (hM : MT (W0 1) V0 V W c) (hx : lop5 A (rxB x 1 J R) k pos 0 w V (a, V2)) (hm : f_m_readsWeek W Jm Rm (z, X)) :
      (z = 0 ∧ a = X 0 7 ∧ ¬ a = 0) ∨ (z = 1 ∧ ∃ (A2 : Nat) (k2 pos2 : Int) (V3 : Nat → Nat → Int), (0 ≤ k2 ∧ k2 ≤ pos2) ∧ pos2 ≤ x ∧ w < 12 ∧ ¬ (cmr (sgW W0 pos2) ∨ (50 ≤ sgW W0 pos2 ∧ sgW W0 pos2 ≤ 55)) ∧ RWS W0 X pos2 (7 * (w + 1)) (w + 1) ∧ MT (W0 1) V0 V3 X (7 * (w + 1)) ∧ lop5 A2 (rxB x 1 J R) k2 pos2 7 w V3 (a, V2)) := by
  unfold f_m_readsWeek at hm
  obtain ⟨t1, e1, -, hm⟩ := rdb_g hm
  obtain ⟨t2, e2, -, hm⟩ := rdb_g hm
  obtain ⟨t3, e3, -, hm⟩ := rdb_g hm
  obtain ⟨t4, e4, -, hm⟩ := rdb_g hm
  obtain ⟨u, hu, -, hm⟩ := hm
  have eu := q_hereW hS hu
  obtain ⟨y, hy, -, hm⟩ := hm
  have hy := q_isDayAt hy
  rw [eu] at hy
  by_cases gy : y = 0
  · rw [if_pos gy] at hm
    exact rj_week hT hl hx90 hR _ A k pos 0 w c V W hk hp (by omega) hw (Or.inr ⟨by omega, hy.off gy⟩) (by omega) hS hM hx hm
  · rw [if_neg gy] at hm
    have qy := hy.on gy
    have hS0 := hS
    obtain ⟨s1, s2, s3, s4, s5, s6⟩ := hS
    by_cases g12 : ¬ t4 = 12
    · rw [if_pos g12] at hm
      exact rj_week hT hl hx90 hR _ A k pos 0 w c V W hk hp (by omega) hw (Or.inl (by omega)) (by omega) hS0 hM hx hm
    · rw [if_neg g12] at hm
      obtain ⟨t, T, hTT, -, -, hm⟩ := hm
      obtain ⟨t0, tt1⟩ := q_wrong hTT (by decide) (by omega)
      simp only [rtn, Prod.mk.injEq] at hm
      cases A with
      | zero => exact False.elim hx
      | succ A =>
        obtain ⟨f, p, who, n, hD, hr⟩ := rx_step hT hl hx90 hM.2.2 hR hk hp (by omega) hw (fun hh => by omega) hx
        have nr := dnum_r (sgW W0 pos)
        obtain ⟨en, hD⟩ := hD
        have f4 : f = 4 ∧ p = pos := by
          rcases hD with ⟨-, -, q1, q2⟩ | ⟨q1, q2, -⟩ | ⟨-, -, -, q, -⟩ | ⟨-, -, q, -⟩
          · rcases qy with q | q
            · exact absurd q q2
            · omega
          · exact ⟨q1, q2⟩
          · omega
          · omega
        rcases hr with ⟨-, r2⟩ | ⟨r1, -⟩
        · refine Or.inl ⟨by rw [hm.1, t0], ?_, by omega⟩
          rw [hm.2, tt1, up2_s, r2, f4.1, f4.2, ← e1, s1]
        · omega
set_option maxRecDepth 100000 in
theorem rj_all {x a b : Int} {V0 V2 W0 X J Jm : Nat → Nat → Int} {R Rm : Nat → Nat → Nat} {F : Int → (Nat → Nat → Int) → Int × (Nat → Nat → Int) → Prop} {bR : (Int → (Nat → Nat → Int) → Int × (Nat → Nat → Int) → Prop) → Int → (Nat → Nat → Int) → Int × (Nat → Nat → Int) → Prop} (hT : TP V0 W0) (hl : W0 0 6 = x ∧ x ≤ W0 0 4) (hx90 : 1 ≤ x ∧ x ≤ 90) (hR : RLz 1 V0 (W0 1))
    (hbR : bR = (fun rc90 (z89 : Int) (V90 : Nat → Nat → Int) => rdb (V90 0 5) fun z91 => fct (0 ≤ z91 ∧ z91 ≤ 220) <| rdb (V90 0 6) fun z92 => fct (0 ≤ z92 ∧ z92 ≤ 220) <| rdb (V90 0 46) fun z93 => fct (0 ≤ z93 ∧ z93 ≤ 84) <| rdb (V90 0 47) fun z94 => fct (0 ≤ z94 ∧ z94 ≤ 12) <| (if z89 = 0 then rdb (up2 V90 0 4 0) fun V96 => rdb (V96 0 7) fun z97 => rtn (z97, V96) else (if z92 ≤ z91 then rdb (up2 V90 0 4 0) fun V108 => F z93 V108 else calVM 160 V90 (f_m_takes 47 V90 Jm Rm) fun z114 V114 => fct (0 ≤ z114 ∧ z114 ≤ 1) <| rdb (V114 0 5) fun z115 => fct (0 ≤ z115 ∧ z115 ≤ 220) <| (if z114 = 0 then rc90 0 V114 else calVM 19807040628566295504618520736 V114 (f_m_readsWeek V114 Jm Rm) fun z118 V118 => fct (0 ≤ z118 ∧ z118 ≤ 1) <| rdb (V118 0 6) fun z119 => fct (0 ≤ z119 ∧ z119 ≤ 220) <| rdb (V118 0 5) fun z120 => fct (0 ≤ z120 ∧ z120 ≤ 220) <| (if z118 = 0 then rc90 0 V118 else rc90 1 V118)))))) :
    ∀ (B A : Nat) (k pos w c : Int) (z : Int) (V W : Nat → Nat → Int), ((z = 0 ∧ a = W 0 7 ∧ ¬ a = 0) ∨ (z = 1 ∧ (0 ≤ k ∧ k ≤ pos) ∧ pos ≤ x ∧ (0 ≤ w ∧ w < 12) ∧ c = 7 * (w + 1) ∧ ¬ (cmr (sgW W0 pos) ∨ (50 ≤ sgW W0 pos ∧ sgW W0 pos ≤ 55)) ∧ RWS W0 W pos c (w + 1) ∧ MT (W0 1) V0 V W c ∧ lop5 A (rxB x 1 J R) k pos 7 w V (a, V2))) → lop2 B bR z W (b, X) →
      (¬ a = 0 ∧ b = a) ∨ (a = 0 ∧ ∃ (c : Int) (W3 : Nat → Nat → Int), MT (W0 1) V0 V2 W3 c ∧ RWS W0 W3 (W3 0 5) c (W3 0 47) ∧ (∃ W4 : Nat → Nat → Int, W3 = up2 W4 0 4 0) ∧ F c W3 (b, X)) := by
  intro B
  induction B with
  | zero => intro A k pos w c z V W _ hm; exact False.elim hm
  | succ B ih =>
    intro A k pos w c z V W hst hm
    rw [lop2_s hbR] at hm
    obtain ⟨t1, e1, -, hm⟩ := rdb_g hm
    obtain ⟨t2, e2, -, hm⟩ := rdb_g hm
    obtain ⟨t3, e3, -, hm⟩ := rdb_g hm
    obtain ⟨t4, e4, -, hm⟩ := rdb_g hm
    rcases hst with ⟨h1, h2, h3⟩ | ⟨h1, hk, hp, hw, hc, hns, hS, hM, hx⟩
    · rw [if_pos h1] at hm
      obtain ⟨W5, e5, hm⟩ := rdb_g hm
      obtain ⟨t7, e7, hm⟩ := rdb_g hm
      simp only [rtn, Prod.mk.injEq] at hm
      refine Or.inl ⟨h3, ?_⟩
      rw [hm.1, ← e7, ← e5, up2_n _ _ (Or.inr (by decide)), h2]
    · rw [if_neg (by omega)] at hm
      have hS0 := hS
      obtain ⟨s1, s2, s3, s4, s5, s6⟩ := hS
      have hsgn : sgnZ W = sgW W0 pos := by unfold sgnZ sgW; rw [s1, s4, s5]
      cases A with
      | zero => exact False.elim hx
      | succ A =>
        by_cases ge : t2 ≤ t1
        · rw [if_pos ge] at hm
          obtain ⟨W5, e5, hm⟩ := rdb_g hm
          have hx2 : rxB x 1 J R (lop5 A (rxB x 1 J R)) k pos 7 w V (a, V2) := hx
          unfold rxB at hx2
          rw [if_neg (by omega), if_neg (by omega)] at hx2
          obtain ⟨s, hs1, hx2⟩ := hx2
          have es := sg_x hT hl hM.2.2 (by omega) hs1
          have sm : sgW W0 pos = -1 := by unfold sgW; rw [if_pos (by omega)]
          rw [if_neg (by decide), if_neg (by omega)] at hx2
          simp only [rtn, Prod.mk.injEq] at hx2
          have f5 : ∀ q : Nat, q ≠ 4 → W5 0 q = W 0 q := fun q hq => by rw [← e5, up2_n _ _ (Or.inr hq)]
          have o5 : ∀ i : Nat, i ≠ 0 → W5 i = W i := fun i hi => by rw [← e5, up2_c _ _ hi]
          rw [← e3, s2] at hm
          refine Or.inr ⟨hx2.1, c, W5, ?_, ⟨rfl, by rw [f5 46 (by decide)]; exact s2, rfl, by rw [f5 6 (by decide)]; exact s4, by rw [o5 4 (by decide)]; exact s5, fun i i1 i2 => by rw [o5 i i1]; exact s6 i i1 i2⟩, ⟨W, e5.symm⟩, hm⟩
          rw [hx2.2]
          exact ⟨hM.1, fun j hj => by rw [o5 30 (by decide)]; exact hM.2.1 j hj, hM.2.2⟩
        · rw [if_neg ge] at hm
          obtain ⟨y, Y, hY, FY, -, hm⟩ := hm
          obtain ⟨t5, e5, -, hm⟩ := rdb_g hm
          rcases q_takes hY with ⟨k1, k2, k3⟩ | ⟨k1, k2, k3⟩
          · rw [if_neg (by omega)] at hm
            obtain ⟨z2, W6, j6, -, rz, hm⟩ := hm
            obtain ⟨_, -, -, hm⟩ := rdb_g hm
            obtain ⟨_, -, -, hm⟩ := rdb_g hm
            have hx2 : rxB x 1 J R (lop5 A (rxB x 1 J R)) k pos 7 w V (a, V2) := hx
            unfold rxB at hx2
            rw [if_neg (by omega), if_neg (by omega)] at hx2
            obtain ⟨s, hs1, hx2⟩ := hx2
            have es := sg_x hT hl hM.2.2 (by omega) hs1
            have s47 : s = 47 := by rw [es, ← hsgn]; exact k1
            rw [if_neg (by decide), if_pos (by omega), if_neg (by omega)] at hx2
            obtain ⟨w2, ew2, hx2⟩ := rdb_g hx2
            obtain ⟨p2, ep2, hx2⟩ := rdb_g hx2
            rw [wr_id ⟨by omega, by omega⟩] at ew2 ep2
            rw [← ew2, ← ep2] at hx2
            have hSY : RWS W0 Y (pos + 1) c (w + 1) := ⟨by rw [k3, up2_s, s1], by rw [k3, up2_n _ _ (Or.inr (by decide))]; exact s2, by rw [k3, up2_n _ _ (Or.inr (by decide))]; exact s3, by rw [k3, up2_n _ _ (Or.inr (by decide))]; exact s4, by rw [k3, up2_c _ _ (by decide)]; exact s5, fun i i1 i2 => by rw [k3, up2_c _ _ i1]; exact s6 i i1 i2⟩
            have hMY : MT (W0 1) V0 V Y c := ⟨hM.1, fun j hj => by rw [k3, up2_c _ _ (by decide)]; exact hM.2.1 j hj, hM.2.2⟩
            have r := rj_reads hT hl hx90 hR (A := A) (k := k + 1) (pos := pos + 1) (w := w + 1) (c := c) (by omega) (by omega) (by omega) (by omega) hSY hMY hx2 j6
            rcases r with ⟨r1, r2, r3⟩ | ⟨r1, A2, kk2, pos2, V3, r2, r3, r4, r5, r6, r7, r8⟩
            · rw [if_pos r1] at hm
              exact ih 0 0 0 0 0 0 V W6 (Or.inl ⟨rfl, r2, r3⟩) hm
            · rw [if_neg (by omega)] at hm
              exact ih A2 kk2 pos2 (w + 1) _ 1 V3 W6 (Or.inr ⟨rfl, r2, r3, ⟨by omega, r4⟩, rfl, r5, r6, r7, r8⟩) hm
          · rw [if_pos k2] at hm
            -- no stroke: fault 1
            have n47 : ¬ sgW W0 pos = 47 := by rw [← hsgn]; exact k1
            have n1 : ¬ sgW W0 pos = -1 := by
              unfold sgW
              rw [if_neg (by omega)]
              have := iAnd_leB (W0 4 pos.toNat) (q := 255) (B := 255) (by decide)
              omega
            obtain ⟨f, p, who, n, hD, hr⟩ := rx_step hT hl hx90 hM.2.2 hR hk hp (by omega) (by omega) (fun _ => ⟨n1, n47⟩) hx
            have nr := dnum_r (sgW W0 pos)
            obtain ⟨en, hD⟩ := hD
            have hn1 : n = 1 ∧ ¬ cmr (sgW W0 pos) := ⟨by omega, fun hh => hns (Or.inl hh)⟩
            have f1 : f = 1 ∧ p = pos := by
              rcases hD with ⟨q1, q2, -⟩ | ⟨-, -, q, -⟩ | ⟨-, -, q, -⟩ | ⟨-, q, -⟩
              · exact ⟨q1, q2⟩
              · exact absurd hn1 q
              · exact absurd hn1 q
              · exact absurd hn1 q
            rcases hr with ⟨-, r2⟩ | ⟨r1, -⟩
            · refine ih 0 0 0 0 0 0 V Y (Or.inl ⟨rfl, ?_, by omega⟩) hm
              rw [k3, up2_s, r2, f1.1, f1.2, s1]
              omega
            · omega
