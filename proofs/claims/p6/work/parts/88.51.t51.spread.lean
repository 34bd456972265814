-- answers: spread (own work)
/-- lives: 1 or 0 -/
def av (N : Nat → Int) (l : Nat) : Int := if bt (N 76) (l : Int) = 1 ∧ ¬ bt (N 77) (l : Int) = 1 then 1 else 0
theorem av_x {V J : Nat → Nat → Int} {R : Nat → Nat → Nat} {N : Nat → Int} {l : Nat} {z : Int} (h : RLz 1 V N) (hl : l < 4) (hx : f_s_isAlive 1 (l : Int) V J R z) : z = av N l := by
  have q := q_sAlive hx
  have e := h.isA (x := (l : Int))
  unfold av
  by_cases g : bt (N 76) (l : Int) = 1 ∧ ¬ bt (N 77) (l : Int) = 1
  · rw [if_pos g]
    rcases q with ⟨q, -⟩ | ⟨-, q⟩
    · exact q
    · exact absurd (e.mpr ⟨⟨by omega, by omega, g.1⟩, g.2⟩) q
  · rw [if_neg g]
    rcases q with ⟨-, q⟩ | ⟨q, -⟩
    · have := e.mp q
      exact absurd ⟨this.1.2.2, this.2⟩ g
    · exact q
theorem av_m {W J : Nat → Nat → Int} {R : Nat → Nat → Nat} {l : Nat} {y : Int} (hl : l < 4) (hm : f_m_lives (l : Int) W J R y) : y = av (W 1) l := by
  have q := q_mLives hm
  unfold av
  by_cases g : bt (W 1 76) (l : Int) = 1 ∧ ¬ bt (W 1 77) (l : Int) = 1
  · rw [if_pos g]
    rcases q with ⟨q, -⟩ | ⟨-, q⟩
    · exact q
    · exact absurd ⟨⟨by omega, by omega, g.1⟩, g.2⟩ q
  · rw [if_neg g]
    rcases q with ⟨-, q⟩ | ⟨q, -⟩
    · exact absurd ⟨q.1.2.2, q.2⟩ g
    · exact q
theorem av_r (N : Nat → Int) (l : Nat) : av N l = 1 ∨ av N l = 0 := by
  unfold av
  split
  · exact Or.inl rfl
  · exact Or.inr rfl
theorem av_1 {N : Nat → Int} {l : Nat} (h : av N l = 1) : bt (N 76) (l : Int) = 1 ∧ ¬ bt (N 77) (l : Int) = 1 := by
  unfold av at h
  by_cases g : bt (N 76) (l : Int) = 1 ∧ ¬ bt (N 77) (l : Int) = 1
  · exact g
  · rw [if_neg g] at h; omega
theorem av_c {N M : Nat → Int} (l : Nat) (h : ∀ k : Nat, k < 81 → M k = N k) : av M l = av N l := by
  unfold av
  rw [h 76 (by decide), h 77 (by decide)]
/-- behind the filling -/
def SPI (R : Nat → Nat → Nat) (N : Nat → Int) (V W : Nat → Nat → Int) : Prop := RLz 1 V N ∧ (∀ k : Nat, k < 81 → W 1 k = N k) ∧ RTx R V W ∧ P9q V ∧ ∀ j : Nat, j < 4 → V 127 j = W 28 j
def SPT (N : Nat → Int) (V W : Nat → Nat → Int) (l i : Nat) : Prop := av N l = 1 → V 126 (25 * l + i) = W 26 (25 * l + i) ∧ 0 ≤ V 126 (25 * l + i)
theorem sp_fill {n : Nat} {ρ : Type} {F : (Nat → Nat → Int) → ρ → Prop} {r : ρ} {N : Nat → Int} {V0 W0 J Jm U : Nat → Nat → Int} {R Rm : Nat → Nat → Nat} {bX : (Int → (Nat → Nat → Int) → (Nat → Nat → Int) → Prop) → Int → (Nat → Nat → Int) → (Nat → Nat → Int) → Prop} {bM : (Int → (Nat → Nat → Int) → ρ → Prop) → Int → (Nat → Nat → Int) → ρ → Prop} (hn : n ≤ 24) (hN : N 79 ≤ 9999)
    (hbX : bX = (fun rc884 (z883 : Int) (V884 : Nat → Nat → Int) => (if 4 ≤ z883 then rtn V884 else lop2 (27) (fun rc1146 (z1145 : Int) (V1146 : Nat → Nat → Int) => (if (n : Int) < z1145 then rc884 (z883 + 1) V1146 else calR (f_s_isAlive 1 z883 V1146 J R) fun z1176 => fct (0 ≤ z1176 ∧ z1176 ≤ 1) <| jnk (fun (z1179 : Int) (V1180 : Nat → Nat → Int) => rdb (up2 V1180 126 ((25 * z883 + z1145).toNat) z1179) fun V1181 => rc1146 (z1145 + 1) V1181) fun jf1180 => (if z1176 = 0 then jf1180 0 V1146 else calVX (fun i k : Nat => (39 ≤ i ∧ i ≤ 57) ∨ (69 ≤ i ∧ i ≤ 71)) V1146 (f_s_lastsWith z883 z1145 V1146 J R) fun z1184 V1184 => fct (0 ≤ z1184 ∧ z1184 ≤ 60) <| jf1180 z1184 V1184))) 0 V884)))
    (hbM : bM = (fun rc107581 (z107580 : Int) (V107581 : Nat → Nat → Int) => (if 4 ≤ z107580 then F V107581 else lop2 (27) (fun rc214461 (z214460 : Int) (V214461 : Nat → Nat → Int) => (if 24 < z214460 then rc107581 (z107580 + 1) V214461 else calR (f_m_lives z107580 V214461 Jm Rm) fun z214503 => fct (0 ≤ z214503 ∧ z214503 ≤ 1) <| jnk (fun (z214508 : Int) (V214509 : Nat → Nat → Int) => rdb (up2 V214509 26 ((25 * z107580 + z214460).toNat) z214508) fun V214510 => rc214461 (z214460 + 1) V214510) fun jf214509 => (if z214503 = 0 then jf214509 0 V214461 else rdb (V214461 1 ((z107580 + 12).toNat)) fun z214513 => fct (0 ≤ z214513 ∧ z214513 ≤ 8) <| rdb (V214461 1 ((z107580 + 16).toNat)) fun z214514 => fct (0 ≤ z214514 ∧ z214514 ≤ 8) <| calVM 7253665598152217305546752 V214461 (f_m_lastsWith z107580 z214460 V214461 Jm Rm) fun z214515 V214515 => jf214509 z214515 V214515))) 0 V107581)))
    (hI : SPI R N V0 W0) (hx : lop2 6 bX 0 V0 U) (hm : lop2 6 bM 0 W0 r) : ∃ W : Nat → Nat → Int, SPI R N U W ∧ (∀ l i : Nat, l < 4 → i ≤ n → SPT N U W l i) ∧ F W r := by
  -- the reference goes on to 24 cups
  have skip : ∀ (m i l : Nat) (mm : Nat) (cM : (Int → (Nat → Nat → Int) → ρ → Prop) → Int → (Nat → Nat → Int) → ρ → Prop) (V W : Nat → Nat → Int), l < 4 → n < i → cM = (fun rc214461 (z214460 : Int) (V214461 : Nat → Nat → Int) => (if 24 < z214460 then lop2 mm bM ((l : Int) + 1) V214461 else calR (f_m_lives (l : Int) V214461 Jm Rm) fun z214503 => fct (0 ≤ z214503 ∧ z214503 ≤ 1) <| jnk (fun (z214508 : Int) (V214509 : Nat → Nat → Int) => rdb (up2 V214509 26 ((25 * (l : Int) + z214460).toNat) z214508) fun V214510 => rc214461 (z214460 + 1) V214510) fun jf214509 => (if z214503 = 0 then jf214509 0 V214461 else rdb (V214461 1 (((l : Int) + 12).toNat)) fun z214513 => fct (0 ≤ z214513 ∧ z214513 ≤ 8) <| rdb (V214461 1 (((l : Int) + 16).toNat)) fun z214514 => fct (0 ≤ z214514 ∧ z214514 ≤ 8) <| calVM 7253665598152217305546752 V214461 (f_m_lastsWith (l : Int) z214460 V214461 Jm Rm) fun z214515 V214515 => jf214509 z214515 V214515))) →
      SPI R N V W → (∀ q j : Nat, q < 4 → j ≤ n → (q < l ∨ q = l) → SPT N V W q j) → lop2 m cM (i : Int) W r → ∃ W2 : Nat → Nat → Int, SPI R N V W2 ∧ (∀ q j : Nat, q < 4 → j ≤ n → q < l + 1 → SPT N V W2 q j) ∧ lop2 mm bM ((l : Int) + 1) W2 r := by
    intro m
    induction m with
    | zero => intro i l mm cM V W _ _ _ _ _ h; exact False.elim h
    | succ m ih =>
      intro i l mm cM V W hl hi hc hS hT h
      rw [lop2_s hc] at h
      by_cases g : (24 : Int) < i
      · rw [if_pos g] at h
        exact ⟨W, hS, fun q j hq hj hql => hT q j hq hj (by omega), h⟩
      · rw [if_neg g] at h
        obtain ⟨y, -, -, h⟩ := h
        have h := jnk_d h
        have nx : ∀ (v : Int) (W3 : Nat → Nat → Int), SPI R N V W3 → W3 26 = W 26 → (rdb (up2 W3 26 ((25 * (l : Int) + (i : Int)).toNat) v) fun V214510 => lop2 m cM ((i : Int) + 1) V214510) r → ∃ W2 : Nat → Nat → Int, SPI R N V W2 ∧ (∀ q j : Nat, q < 4 → j ≤ n → q < l + 1 → SPT N V W2 q j) ∧ lop2 mm bM ((l : Int) + 1) W2 r := by
          intro v W3 hS3 h26 h
          obtain ⟨W4, e4, h⟩ := rdb_g h
          rw [show (25 * (l : Int) + (i : Int)).toNat = 25 * l + i by omega] at e4
          have o4 : ∀ q : Nat, q ≠ 26 → W4 q = W3 q := fun q hq => by rw [← e4, up2_c _ _ hq]
          obtain ⟨s1, s2, s3, s4, s5⟩ := hS3
          refine ih (i + 1) l mm cM V W4 hl (by omega) hc ⟨s1, fun k hk => by rw [o4 1 (by decide)]; exact s2 k hk, s3.cg (fun _ _ _ _ => rfl) (fun i i1 i2 => o4 i (by omega)), s4, fun j hj => by rw [o4 28 (by decide)]; exact s5 j hj⟩ (fun q j hq hj hql ha => ?_) (by rw [Int.natCast_add]; exact h)
          rw [← e4, up2_n _ _ (Or.inr (by omega)), h26]
          exact hT q j hq hj hql ha
        by_cases gy : y = 0
        · rw [if_pos gy] at h
          exact nx _ _ hS rfl h
        · rw [if_neg gy] at h
          obtain ⟨_, -, -, h⟩ := rdb_g h
          obtain ⟨_, -, -, h⟩ := rdb_g h
          obtain ⟨w, W5, h5, F5, h⟩ := h
          have k5 := k_lastsWith h5
          obtain ⟨s1, s2, s3, s4, s5⟩ := hS
          exact nx _ _ ⟨s1, fun k hk => by rw [k5 k hk]; exact s2 k hk, s3.cg (fun _ _ _ _ => rfl) (F5.kt (by decide)), s4, fun j hj => by rw [F5.rw 28 (by decide) (by decide)]; exact s5 j hj⟩ (F5.rw 26 (by decide) (by decide)) h
  have outer : ∀ (nn mm l : Nat) (V W : Nat → Nat → Int), l ≤ 4 → SPI R N V W → (∀ q j : Nat, q < 4 → j ≤ n → q < l → SPT N V W q j) → lop2 nn bX (l : Int) V U → lop2 mm bM (l : Int) W r → ∃ W : Nat → Nat → Int, SPI R N U W ∧ (∀ l i : Nat, l < 4 → i ≤ n → SPT N U W l i) ∧ F W r := by
    intro nn
    induction nn with
    | zero => intro mm l V W _ _ _ hx; exact False.elim hx
    | succ nn ih =>
      intro mm l V W hl hS hT hx hm
      cases mm with
      | zero => exact False.elim hm
      | succ mm =>
        rw [lop2_s hbX] at hx
        rw [lop2_s hbM] at hm
        by_cases g : (4 : Int) ≤ l
        · rw [if_pos g] at hx hm
          have hx : U = V := hx
          rw [hx]
          exact ⟨W, hS, fun q j hq hj => hT q j hq hj (by omega), hm⟩
        · rw [if_neg g] at hx hm
          obtain ⟨cX, hcX, hx9⟩ := lop2_g hx
          obtain ⟨cM, hcM, hm9⟩ := lop2_g hm
          have inn : ∀ (a b i : Nat) (V W : Nat → Nat → Int), i ≤ n + 1 → SPI R N V W → (∀ q j : Nat, q < 4 → j ≤ n → (q < l ∨ (q = l ∧ j < i)) → SPT N V W q j) → lop2 a cX (i : Int) V U → lop2 b cM (i : Int) W r → ∃ W : Nat → Nat → Int, SPI R N U W ∧ (∀ l i : Nat, l < 4 → i ≤ n → SPT N U W l i) ∧ F W r := by
            intro a
            induction a with
            | zero => intro b i V W _ _ _ hx; exact False.elim hx
            | succ a ih2 =>
              intro b i V W hi hS hT hx hm
              by_cases g1 : (n : Int) < i
              · rw [lop2_s hcX, if_pos g1] at hx
                obtain ⟨W2, k1, k2, k3⟩ := skip b i l mm cM V W (by omega) (by omega) hcM hS (fun q j hq hj hql => hT q j hq hj (by omega)) hm
                exact ih mm (l + 1) V W2 (by omega) k1 k2 (by rw [Int.natCast_add]; exact hx) (by rw [Int.natCast_add]; exact k3)
              · cases b with
                | zero => exact False.elim hm
                | succ b =>
                  rw [lop2_s hcX, if_neg g1] at hx
                  rw [lop2_s hcM, if_neg (by omega)] at hm
                  obtain ⟨z, hz, -, hx⟩ := hx
                  obtain ⟨y, hy, -, hm⟩ := hm
                  have hx := jnk_d hx
                  have hm := jnk_d hm
                  have hl4 : l < 4 := by omega
                  obtain ⟨s1, s2, s3, s4, s5⟩ := hS
                  have ez := av_x s1 hl4 hz
                  have ey : y = av N l := by rw [av_m hl4 hy]; exact av_c l s2
                  have nx : ∀ (v w : Int) (V3 W3 : Nat → Nat → Int), (av N l = 1 → v = w ∧ 0 ≤ v) → SPI R N V3 W3 → V3 126 = V 126 → W3 26 = W 26 → (rdb (up2 V3 126 ((25 * (l : Int) + (i : Int)).toNat) v) fun V1181 => lop2 a cX ((i : Int) + 1) V1181) U → (rdb (up2 W3 26 ((25 * (l : Int) + (i : Int)).toNat) w) fun V214510 => lop2 b cM ((i : Int) + 1) V214510) r → ∃ W : Nat → Nat → Int, SPI R N U W ∧ (∀ l i : Nat, l < 4 → i ≤ n → SPT N U W l i) ∧ F W r := by
                    intro v w V3 W3 hvw hS3 h126 h26 hx hm
                    obtain ⟨V4, e4, hx⟩ := rdb_g hx
                    obtain ⟨W4, f4, hm⟩ := rdb_g hm
                    rw [show (25 * (l : Int) + (i : Int)).toNat = 25 * l + i by omega] at e4 f4
                    have o4 : ∀ q : Nat, q ≠ 26 → W4 q = W3 q := fun q hq => by rw [← f4, up2_c _ _ hq]
                    have v4 : ∀ q : Nat, q ≠ 126 → V4 q = V3 q := fun q hq => by rw [← e4, up2_c _ _ hq]
                    obtain ⟨t1, t2, t3, t4, t5⟩ := hS3
                    refine ih2 b (i + 1) V4 W4 (by omega) ⟨t1.cg2 (fun q q1 q2 => v4 q (by omega)) (fun _ _ => rfl), fun k hk => by rw [o4 1 (by decide)]; exact t2 k hk, t3.cg (fun q q1 q2 q3 => v4 q (by omega)) (fun q q1 q2 => o4 q (by omega)), ⟨fun p hp j hj => by rw [v4 _ (by omega), v4 (1 + 11 + p) (by omega)]; exact t4.1 p hp j hj, by rw [v4 39 (by decide), v4 1 (by decide)]; exact t4.2.1, by rw [v4 39 (by decide), v4 1 (by decide)]; exact t4.2.2⟩, fun j hj => by rw [o4 28 (by decide), v4 127 (by decide)]; exact t5 j hj⟩ (fun q j hq hj hql ha => ?_) (by rw [Int.natCast_add]; exact hx) (by rw [Int.natCast_add]; exact hm)
                    rw [← e4, ← f4]
                    by_cases e : q = l ∧ j = i
                    · rw [e.1, e.2, up2_s, up2_s]
                      rw [e.1] at ha
                      exact hvw ha
                    · rw [up2_n _ _ (Or.inr (by omega)), up2_n _ _ (Or.inr (by omega)), h126, h26]
                      exact hT q j hq hj (by omega) ha
                  rcases av_r N l with e1 | e1
                  · rw [if_neg (by omega)] at hx hm
                    obtain ⟨v, V5, k5, FX, rv, hx⟩ := hx
                    obtain ⟨_, -, -, hm⟩ := rdb_g hm
                    obtain ⟨_, -, -, hm⟩ := rdb_g hm
                    obtain ⟨w, W5, j5, FM, hm⟩ := hm
                    have a1 := av_1 e1
                    have kw := k_lastsWith j5
                    obtain ⟨d1, d2⟩ := d_lastsQ hl4 (x := (i : Int)) ⟨by omega, by omega⟩ (s1.cg2 (fun _ _ _ => rfl) s2) (by rw [s2 79 (by decide)]; exact hN) s3 s4 (by rw [s2 76 (by decide)]; exact a1.1) (by rw [s2 77 (by decide)]; exact a1.2) k5 j5
                    exact nx v w V5 W5 (fun _ => ⟨d1, rv.1⟩) ⟨s1.cg2 (fun q q1 q2 => funext fun k => FX q k (by omega)) (fun _ _ => rfl), fun k hk => by rw [kw k hk]; exact s2 k hk, s3.cg (fun q q1 q2 q3 => funext fun k => FX q k (by omega)) (FM.kt (by decide)), d2, fun j hj => by rw [FM.rw 28 (by decide) (by decide), FX 127 j (by omega)]; exact s5 j hj⟩ (funext fun k => FX 126 k (by omega)) (FM.rw 26 (by decide) (by decide)) hx hm
                  · rw [if_pos (by omega)] at hx hm
                    exact nx 0 0 V W (fun h => by omega) ⟨s1, s2, s3, s4, s5⟩ rfl rfl hx hm
          exact inn _ _ 0 V W (by omega) hS (fun q j hq hj hql => hT q j hq hj (by omega)) hx9 hm9
  exact outer _ _ 0 V0 W0 (by omega) hI (fun q j hq hj hql => absurd hql (by omega)) hx hm
