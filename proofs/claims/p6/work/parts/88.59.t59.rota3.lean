-- a rota read: the weeks, both sides together (own work)
def MT (N : Nat → Int) (V0 V W : Nat → Nat → Int) (c : Int) : Prop := V 124 1 = c ∧ (∀ j : Nat, (j : Int) < c → V 125 j = W 30 j ∧ (W 30 j = -1 ∨ (0 ≤ W 30 j ∧ W 30 j < 8 ∧ bt (N 78) (W 30 j) = 1))) ∧ ∀ i : Nat, i ≠ 124 → i ≠ 125 → V i = V0 i
theorem lop5_g2 {α β γ δ ε ρ : Type} {n : Nat} {b : (α → β → γ → δ → ε → ρ → Prop) → α → β → γ → δ → ε → ρ → Prop} {x : α} {y : β} {z : γ} {w : δ} {v : ε} {r : ρ} (h : lop5 n b x y z w v r) : ∃ b2, b2 = b ∧ lop5 n b2 x y z w v r := ⟨b, rfl, h⟩
/-- the signs are the same -/
theorem sg_x {x q y : Int} {V0 V W0 J : Nat → Nat → Int} {R : Nat → Nat → Nat} (hT : TP V0 W0) (hl : W0 0 6 = x ∧ x ≤ W0 0 4) (hV : ∀ i : Nat, i ≠ 124 → i ≠ 125 → V i = V0 i) (hq : 0 ≤ q) (h : f_s_signAt q x V J R y) : y = sgW W0 q := by
  obtain ⟨t1, t2, t3⟩ := hT
  unfold f_s_signAt at h
  unfold sgW
  rw [hl.1]
  by_cases g : x ≤ q
  · rw [if_pos g] at h ⊢; exact h
  · rw [if_neg g] at h ⊢
    obtain ⟨z, hz, h⟩ := h
    have h : y = z := h
    have hz := q_at hz ⟨hq, by rw [hV 58 (by decide) (by decide), t1]; omega⟩
    rw [h, hz, hV 59 (by decide) (by decide), t3 _ (by omega)]
theorem sgW_r (W : Nat → Nat → Int) (q : Int) : -1 ≤ sgW W q ∧ sgW W q ≤ 255 := by
  unfold sgW
  split
  · omega
  · have := iAnd_leB (W 4 q.toNat) (q := 255) (B := 255) (by decide)
    omega
set_option maxRecDepth 100000 in
/-- a step where a day is read -/
theorem rx_step {x a k pos day w : Int} {A : Nat} {V0 V V2 W0 J : Nat → Nat → Int} {R : Nat → Nat → Nat} {N : Nat → Int} (hT : TP V0 W0) (hl : W0 0 6 = x ∧ x ≤ W0 0 4) (hx90 : 1 ≤ x ∧ x ≤ 90) (hV : ∀ i : Nat, i ≠ 124 → i ≠ 125 → V i = V0 i) (hR : RLz 1 V0 N) (hk : 0 ≤ k ∧ k ≤ pos) (hp : pos ≤ x) (hd : 0 ≤ day ∧ day ≤ 7) (hw : 0 ≤ w ∧ w ≤ 12) (hs : day = 7 → ¬ sgW W0 pos = -1 ∧ ¬ sgW W0 pos = 47) (h : lop5 (A + 1) (rxB x 1 J R) k pos day w V (a, V2)) :
    ∃ f p who n : Int, DO N (sgW W0) w day pos f p who n ∧ ((¬ f = 0 ∧ a = (-1000) * f - p) ∨ (f = 0 ∧ ∃ V3 : Nat → Nat → Int, f_s_addR who n V J R V3 ∧ (∀ i : Nat, i ≠ 124 → i ≠ 125 → V3 i = V0 i) ∧ lop5 A (rxB x 1 J R) (k + 1) (p + 1) (day + n) w V3 (a, V2))) := by
  have h : rxB x 1 J R (lop5 A (rxB x 1 J R)) k pos day w V (a, V2) := h
  unfold rxB at h
  rw [if_neg (by omega), if_neg (by omega)] at h
  obtain ⟨s, hs1, h⟩ := h
  have es := sg_x hT hl hV (by omega) hs1
  have hRV : RLz 1 V N := hR.cg2 (fun i i1 i2 => hV i (by omega) (by omega)) (fun _ _ => rfl)
  have hsg : ∀ q y : Int, 0 ≤ q → q ≤ 91 → f_s_signAt q x V J R y → y = sgW W0 q := fun q y q1 _ hy => sg_x hT hl hV q1 hy
  have nr := dnum_r (sgW W0 pos)
  by_cases g7 : ¬ day = 7
  · rw [if_pos g7, if_pos g7] at h
    have h : dayD x 1 J R (fun n p V3 => rdb (wr (day + n)) fun z1116 => rdb (wr (p + 1)) fun z1117 => lop5 A (rxB x 1 J R) (k + 1) z1117 z1116 w V3) s pos day w V (a, V2) := h
    obtain ⟨f, p, who, n, hD, hr⟩ := q_dayD hw hd (by omega) es hsg (sgW_r W0) hRV h
    refine ⟨f, p, who, n, hD, ?_⟩
    rcases hr with ⟨h1, h2⟩ | ⟨h1, V3, h2, F3, h3⟩
    · simp only [Prod.mk.injEq] at h2
      exact Or.inl ⟨h1, h2.1⟩
    · obtain ⟨d2, e2, h3⟩ := rdb_g h3
      obtain ⟨p2, e3, h3⟩ := rdb_g h3
      have pp : p = pos ∨ p = pos + 1 := by
        obtain ⟨-, q | q | q | q⟩ := hD
        · omega
        · omega
        · omega
        · omega
      have hn := hD.1
      rw [wr_id ⟨by omega, by omega⟩] at e2 e3
      rw [← e2, ← e3] at h3
      exact Or.inr ⟨h1, V3, h2, fun i i1 i2 => by rw [show V3 i = V i from funext fun j => F3 i j (by omega)]; exact hV i i1 i2, h3⟩
  · rw [if_neg g7] at h
    obtain ⟨n1, n47⟩ := hs (by omega)
    rw [if_pos (by rw [es]; exact n1), if_pos (by rw [es]; exact n47)] at h
    have h : dayD x 1 J R (fun n p V3 => rdb (wr (p + 1)) fun z1218 => lop5 A (rxB x 1 J R) (k + 1) z1218 (day + n) w V3) s pos day w V (a, V2) := h
    obtain ⟨f, p, who, n, hD, hr⟩ := q_dayD hw hd (by omega) es hsg (sgW_r W0) hRV h
    refine ⟨f, p, who, n, hD, ?_⟩
    rcases hr with ⟨h1, h2⟩ | ⟨h1, V3, h2, F3, h3⟩
    · simp only [Prod.mk.injEq] at h2
      exact Or.inl ⟨h1, h2.1⟩
    · obtain ⟨p2, e3, h3⟩ := rdb_g h3
      have pp : p = pos ∨ p = pos + 1 := by
        obtain ⟨-, q | q | q | q⟩ := hD
        · omega
        · omega
        · omega
        · omega
      rw [wr_id ⟨by omega, by omega⟩] at e3
      rw [← e3] at h3
      exact Or.inr ⟨h1, V3, h2, fun i i1 i2 => by rw [show V3 i = V i from funext fun j => F3 i j (by omega)]; exact hV i i1 i2, h3⟩
set_option maxRecDepth 100000 in
theorem rj_week {x a z : Int} {V0 V2 W0 X J Jm : Nat → Nat → Int} {R Rm : Nat → Nat → Nat} (hT : TP V0 W0) (hl : W0 0 6 = x ∧ x ≤ W0 0 4) (hx90 : 1 ≤ x ∧ x ≤ 90) (hR : RLz 1 V0 (W0 1)) :
    ∀ (B A : Nat) (k pos day w c : Int) (V W : Nat → Nat → Int), 0 ≤ k ∧ k ≤ pos → pos ≤ x → 0 ≤ day ∧ day ≤ 7 → 0 ≤ w ∧ w ≤ 12 → (w < 12 ∨ (day < 7 ∧ ¬ (cmr (sgW W0 pos) ∨ (50 ≤ sgW W0 pos ∧ sgW W0 pos ≤ 55)))) → c = 7 * w + day → RWS W0 W pos c w → MT (W0 1) V0 V W c → lop5 A (rxB x 1 J R) k pos day w V (a, V2) → lop2 B (rwB Jm Rm) day W (z, X) →
      (z = 0 ∧ a = X 0 7 ∧ ¬ a = 0) ∨ (z = 1 ∧ ∃ (A2 : Nat) (k2 pos2 : Int) (V3 : Nat → Nat → Int), (0 ≤ k2 ∧ k2 ≤ pos2) ∧ pos2 ≤ x ∧ w < 12 ∧ ¬ (cmr (sgW W0 pos2) ∨ (50 ≤ sgW W0 pos2 ∧ sgW W0 pos2 ≤ 55)) ∧ RWS W0 X pos2 (7 * (w + 1)) (w + 1) ∧ MT (W0 1) V0 V3 X (7 * (w + 1)) ∧ lop5 A2 (rxB x 1 J R) k2 pos2 7 w V3 (a, V2)) := by
  intro B
  induction B with
  | zero => intro A k pos day w c V W _ _ _ _ _ _ _ _ _ hm; exact False.elim hm
  | succ B ih =>
    intro A k pos day w c V W hk hp hd hw hw2 hc hS hM hx hm
    by_cases g7 : 7 ≤ day
    · have e7 : day = 7 := by omega
      have hw12 : w < 12 := by omega
      have hm2 : rwB Jm Rm (lop2 B (rwB Jm Rm)) day W (z, X) := hm
      unfold rwB at hm2
      obtain ⟨t5, e5, -, hm2⟩ := rdb_g hm2
      obtain ⟨t46, e46, -, hm2⟩ := rdb_g hm2
      obtain ⟨t47, e47, -, hm2⟩ := rdb_g hm2
      rw [if_pos g7] at hm2
      obtain ⟨W3, e3, hm2⟩ := rdb_g hm2
      obtain ⟨s1, s2, s3, s4, s5, s6⟩ := hS
      have hS3 : RWS W0 W3 pos c (w + 1) := ⟨by rw [← e3, up2_n _ _ (Or.inr (by decide))]; exact s1, by rw [← e3, up2_n _ _ (Or.inr (by decide))]; exact s2, by rw [← e3, up2_s, ← e47, s3], by rw [← e3, up2_n _ _ (Or.inr (by decide))]; exact s4, by rw [← e3, up2_c _ _ (by decide)]; exact s5, fun i i1 i2 => by rw [← e3, up2_c _ _ i1]; exact s6 i i1 i2⟩
      obtain ⟨u, hu, -, hm2⟩ := hm2
      have eu := q_hereW hS3 hu
      obtain ⟨y, hy, -, hm2⟩ := hm2
      have hy := q_isDayAt hy
      rw [eu] at hy
      by_cases gy : y = 0
      · rw [if_pos gy] at hm2
        simp only [rtn, Prod.mk.injEq] at hm2
        refine Or.inr ⟨hm2.1, A, k, pos, V, hk, hp, hw12, hy.off gy, ?_, ?_, by rw [← e7]; exact hx⟩
        · rw [hm2.2, show 7 * (w + 1) = c by omega]; exact hS3
        · rw [hm2.2, show 7 * (w + 1) = c by omega]
          exact ⟨hM.1, fun j hj => by rw [← e3, up2_c _ _ (by decide)]; exact hM.2.1 j hj, hM.2.2⟩
      · rw [if_neg gy] at hm2
        have qy := hy.on gy
        obtain ⟨t, T, hTT, -, -, hm2⟩ := hm2
        obtain ⟨t0, t1⟩ := q_wrong hTT (by decide) (by omega)
        simp only [rtn, Prod.mk.injEq] at hm2
        cases A with
        | zero => exact False.elim hx
        | succ A =>
          obtain ⟨f, p, who, n, hD, hr⟩ := rx_step hT hl hx90 hM.2.2 hR hk hp hd hw (fun _ => by omega) hx
          have nr := dnum_r (sgW W0 pos)
          obtain ⟨en, hD⟩ := hD
          have f6 : f = 6 ∧ p = pos := by
            rcases hD with ⟨-, -, q1, q2⟩ | ⟨-, -, -, q⟩ | ⟨q1, q2, -⟩ | ⟨-, -, -, q, -⟩
            · rcases qy with q | q
              · exact absurd q q2
              · omega
            · exact absurd hw12 q
            · exact ⟨q1, q2⟩
            · omega
          rcases hr with ⟨-, r2⟩ | ⟨r1, -⟩
          · refine Or.inl ⟨hm2.1, ?_, by omega⟩
            rw [hm2.2, t1, up2_s, r2, f6.1, f6.2, ← e5, s1]
          · omega
    · cases A with
      | zero => exact False.elim hx
      | succ A =>
        obtain ⟨f, p, who, n, hD, hr⟩ := rx_step hT hl hx90 hM.2.2 hR hk hp hd hw (fun hh => by omega) hx
        have hstep := rw_step hS (by omega) (by omega) (by omega) (by
          rcases hw2 with q | q
          · exact Or.inl q
          · exact Or.inr q.2) hD hm
        have nr := dnum_r (sgW W0 pos)
        have en := hD.1
        rcases hr with ⟨r1, r2⟩ | ⟨r1, V3, r2, r3, r4⟩
        · rcases hstep with ⟨-, q2, q3⟩ | ⟨q1, -⟩
          · have fp : (f = 1 ∨ f = 4 ∨ f = 6 ∨ f = 7) ∧ 0 ≤ p := by
              obtain ⟨-, q | q | q | q⟩ := hD
              · omega
              · omega
              · omega
              · omega
            refine Or.inl ⟨q2, ?_, by omega⟩
            rw [q3, up2_s, r2]
          · exact absurd q1 r1
        · rcases hstep with ⟨q1, -⟩ | ⟨-, W2, q1, q2, q3, q4, q5⟩
          · exact absurd r1 q1
          · obtain ⟨m1, m2, m3⟩ := hM
            have hE : ((p = pos ∧ n ≤ 1) ∨ (p = pos + 1 ∧ 1 < n)) ∧ w < 12 ∧ day + n ≤ 7 ∧ cmr (sgW W0 p) := by
              obtain ⟨-, q | q | q | q⟩ := hD
              · omega
              · omega
              · omega
              · obtain ⟨a1, a2, a3, a4, a5⟩ := q
                refine ⟨a1, a3, a4, ?_⟩
                rcases a5 with b | b | b
                · omega
                · omega
                · exact b.2.1
            obtain ⟨a1, a2, a3⟩ := q_addR (by omega) (by omega) r2
            have plt : p < x := by
              have hc4 := hE.2.2.2
              unfold sgW at hc4
              by_cases g : W0 0 6 ≤ p
              · rw [if_pos g] at hc4; omega
              · omega
            have hwho : who = -1 ∨ (0 ≤ who ∧ who < 8 ∧ bt (W0 1 78) who = 1) := by
              obtain ⟨-, q | q | q | q⟩ := hD
              · omega
              · omega
              · omega
              · obtain ⟨-, -, -, -, b | b | b⟩ := q
                · omega
                · omega
                · obtain ⟨-, b1, b2 | b2⟩ := b
                  · exact Or.inl b2.2
                  · have b3 := b2.2.1
                    rw [← b2.2.2] at b3
                    exact Or.inr ⟨by omega, by omega, b3⟩
            exact ih A (k + 1) (p + 1) (day + n) w (c + n) V3 W2 (by omega) (by omega) (by omega) hw (Or.inl hE.2.1) (by omega) q1 ⟨by rw [a1, m1], fun j hj => by
              rw [a3 j, q4 j, m1]
              by_cases gj : c ≤ j ∧ (j : Int) < c + n
              · rw [if_pos gj, if_pos gj]; exact ⟨rfl, hwho⟩
              · rw [if_neg gj, if_neg gj]; exact m2 j (by omega), r3⟩ r4 q5
