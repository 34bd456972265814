-- card, pour, seed, days, keep, undo (own work)
theorem RLz.isP {b : Nat} {x : Int} {V : Nat → Nat → Int} {N : Nat → Int} (h : RLz b V N) : (0 ≤ x ∧ x < 4 ∧ ¬ V (b + 3 + 2 * x.toNat) 0 = 0) ↔ (0 ≤ x ∧ x < 4 ∧ bt (N 76) x = 1) := by
  constructor
  · rintro ⟨h1, h2, h3⟩
    refine ⟨h1, h2, ?_⟩
    have e := (h.1 x.toNat (by omega)).1
    have r := bt_r (N 76) x
    rw [show ((x.toNat : Nat) : Int) = x by omega] at e
    omega
  · rintro ⟨h1, h2, h3⟩
    refine ⟨h1, h2, ?_⟩
    have e := (h.1 x.toNat (by omega)).1
    rw [show ((x.toNat : Nat) : Int) = x by omega] at e
    omega
theorem RLz.isPe {b : Nat} {x : Int} {V : Nat → Nat → Int} {N : Nat → Int} (h : RLz b V N) : (0 ≤ x ∧ x < 8 ∧ ¬ V (b + 11 + x.toNat) 0 = 0) ↔ (0 ≤ x ∧ x < 8 ∧ bt (N 78) x = 1) := by
  constructor
  · rintro ⟨h1, h2, h3⟩
    refine ⟨h1, h2, ?_⟩
    have e := (h.2.1 x.toNat (by omega)).1
    have r := bt_r (N 78) x
    rw [show ((x.toNat : Nat) : Int) = x by omega] at e
    omega
  · rintro ⟨h1, h2, h3⟩
    refine ⟨h1, h2, ?_⟩
    have e := (h.2.1 x.toNat (by omega)).1
    rw [show ((x.toNat : Nat) : Int) = x by omega] at e
    omega
theorem RLz.isA {b : Nat} {x : Int} {V : Nat → Nat → Int} {N : Nat → Int} (h : RLz b V N) : ((0 ≤ x ∧ x < 4 ∧ ¬ V (b + 3 + 2 * x.toNat) 0 = 0) ∧ ¬ dedX (V (b + 3 + 2 * x.toNat))) ↔ ((0 ≤ x ∧ x < 4 ∧ bt (N 76) x = 1) ∧ ¬ bt (N 77) x = 1) := by
  rw [h.isP]
  constructor
  · rintro ⟨⟨h1, h2, h3⟩, h4⟩
    have e := (h.1 x.toNat (by omega)).2.2.2.2.2.2.2.2.1
    rw [show ((x.toNat : Nat) : Int) = x by omega] at e
    exact ⟨⟨h1, h2, h3⟩, fun hh => h4 (e.mp hh)⟩
  · rintro ⟨⟨h1, h2, h3⟩, h4⟩
    have e := (h.1 x.toNat (by omega)).2.2.2.2.2.2.2.2.1
    rw [show ((x.toNat : Nat) : Int) = x by omega] at e
    exact ⟨⟨h1, h2, h3⟩, fun hh => h4 (e.mpr hh)⟩
/-- both sides agree on who is told and who lives -/
theorem RLz.plant {b : Nat} {x z y : Int} {V J W Jm : Nat → Nat → Int} {R Rm : Nat → Nat → Nat} (h : RLz b V (W 1)) (hx : f_s_isPlant b x V J R z) (hm : f_m_isPlant x W Jm Rm y) : z = y ∧ Sq y (0 ≤ x ∧ x < 4 ∧ bt (W 1 76) x = 1) := ⟨(q_sPlant hx).eq (q_mPlant hm) h.isP, q_mPlant hm⟩
theorem RLz.person {b : Nat} {x z y : Int} {V J W Jm : Nat → Nat → Int} {R Rm : Nat → Nat → Nat} (h : RLz b V (W 1)) (hx : f_s_isPerson b x V J R z) (hm : f_m_isPerson x W Jm Rm y) : z = y ∧ Sq y (0 ≤ x ∧ x < 8 ∧ bt (W 1 78) x = 1) := ⟨(q_sPerson hx).eq (q_mPerson hm) h.isPe, q_mPerson hm⟩
theorem RLz.alive {b : Nat} {x z y : Int} {V J W Jm : Nat → Nat → Int} {R Rm : Nat → Nat → Nat} (h : RLz b V (W 1)) (hx : f_s_isAlive b x V J R z) (hm : f_m_lives x W Jm Rm y) : z = y ∧ Sq y ((0 ≤ x ∧ x < 4 ∧ bt (W 1 76) x = 1) ∧ ¬ bt (W 1 77) x = 1) := ⟨(q_sAlive hx).eq (q_mLives hm) h.isA, q_mLives hm⟩
theorem w_card {x y a b : Int} {V V2 J W Jm X : Nat → Nat → Int} {R Rm : Nat → Nat → Nat} (h : WR R V W) (hy : 0 ≤ y ∧ y ≤ 1) (hx : f_s_card x y V J R (a, V2)) (hm : f_m_card x y W Jm Rm (b, X)) : a = b ∧ WR R V2 X := by
  unfold f_s_card at hx
  unfold f_m_card at hm
  obtain ⟨z1, h1, -, hx⟩ := hx
  obtain ⟨y1, k1, -, hm⟩ := hm
  have hRL := h.1.1
  obtain ⟨e1, q1⟩ := hRL.plant h1 k1
  subst e1
  by_cases g1 : z1 = 0
  · rw [if_pos g1] at hx hm
    exact h.same hx hm
  rw [if_neg g1] at hx hm
  have q1 := q1.on g1
  obtain ⟨n, rfl⟩ : ∃ n : Nat, x = (n : Int) := ⟨x.toNat, by omega⟩
  have hn : n < 4 := by omega
  obtain ⟨c, ec, hx⟩ := rdb_g hx
  rw [Int.toNat_natCast] at ec
  obtain ⟨z5, e5, -, hx⟩ := rdb_g hx
  obtain ⟨z4, e4, hm⟩ := rdb_g hm
  have hm := jnk_if hm
  rw [show ((n : Int) + 20).toNat = 20 + n by omega] at e4 hm
  have hP := hRL.1 n hn
  rw [ec] at hP
  have ht : V c 0 = 1 := hP.1.trans q1.2.2
  have hc := hP.2.2.2.2.2.2.2.1 ht
  by_cases g : ¬ z4 = -2
  · rw [if_pos g] at hm
    have z51 : z5 = 1 := by omega
    by_cases gy : y = 1
    · rw [if_neg (by omega)] at hx hm
      exact h.same hx hm
    · have gy : y = 0 := by omega
      subst gy
      rw [if_pos (by omega)] at hx hm
      rw [if_pos rfl] at hm
      obtain ⟨V7, e7, hx⟩ := rdb_g hx
      obtain ⟨V8, e8, hx⟩ := rdb_g hx
      obtain ⟨W9, f9, hm⟩ := rdb_g hm
      simp only [rtn, Prod.mk.injEq] at hx hm
      obtain ⟨rfl, rfl⟩ := hx
      obtain ⟨rfl, rfl⟩ := hm
      refine ⟨rfl, ?_⟩
      have vc : V2 c = up1 (up1 (V c) 6 0) 7 (-1) := by rw [← e8, up2_row, ← e7, up2_row]
      have vo : ∀ i : Nat, i ≠ c → V2 i = V i := fun i hi => by rw [← e8, up2_c _ _ hi, ← e7, up2_c _ _ hi]
      have x1 : X 1 = up1 (W 1) (20 + n) (-2) := by rw [← f9, up2_row]
      have xo : ∀ k : Nat, k ≠ 20 + n → X 1 k = W 1 k := fun k hk => by rw [x1, up1_of hk]
      refine h.land1 ⟨hRL.pl hn (fun i i1 i2 i3 i4 => vo i (by omega)) (fun k _ _ _ _ _ _ hk _ _ _ => xo k hk) ⟨by rw [xo 76 (by omega)]; exact hRL.2.2.2.2.2.1, fun _ _ _ => by rw [xo 76 (by omega)]⟩ ⟨by rw [xo 77 (by omega)]; exact hRL.2.2.2.2.2.2.1, fun _ _ _ => by rw [xo 77 (by omega)]⟩ ?_, by rw [xo 79 (by omega)]; exact h.1.2⟩ (fun i hi => vo i (by omega)) (fun i hi => by rw [← f9, up2_c _ _ hi])
      rw [ec, vc, vo (c + 1) (by omega)]
      obtain ⟨p0, p1, p2, p3, p4, p5, p6, p7, p8, p9⟩ := hP
      have d2 : dedX (up1 (up1 (V c) 6 0) 7 (-1)) ↔ dedX (V c) := Iff.rfl
      unfold RPl
      rw [xo 76 (by omega), xo 77 (by omega), xo n (by omega), xo (4 + n) (by omega), xo (8 + n) (by omega), xo (12 + n) (by omega), xo (16 + n) (by omega), x1, up1_at, d2]
      exact ⟨p0, p1, p2, p3, p4, p5, fun j hj => by rw [up1_of (by omega)]; exact p6 j hj, fun _ => Or.inl ⟨rfl, rfl⟩, p8, p9⟩
  · rw [if_neg g] at hm
    have z51 : z5 = 0 := by omega
    by_cases gy : y = 0
    · rw [if_neg (by omega)] at hx hm
      exact h.same hx hm
    · have gy : y = 1 := by omega
      subst gy
      rw [if_pos (by omega)] at hx hm
      rw [if_neg (by decide)] at hm
      obtain ⟨V7, e7, hx⟩ := rdb_g hx
      obtain ⟨V8, e8, hx⟩ := rdb_g hx
      obtain ⟨W9, f9, hm⟩ := rdb_g hm
      simp only [rtn, Prod.mk.injEq] at hx hm
      obtain ⟨rfl, rfl⟩ := hx
      obtain ⟨rfl, rfl⟩ := hm
      refine ⟨rfl, ?_⟩
      have vc : V2 c = up1 (up1 (V c) 6 1) 7 (-1) := by rw [← e8, up2_row, ← e7, up2_row]
      have vo : ∀ i : Nat, i ≠ c → V2 i = V i := fun i hi => by rw [← e8, up2_c _ _ hi, ← e7, up2_c _ _ hi]
      have x1 : X 1 = up1 (W 1) (20 + n) (-3) := by rw [← f9, up2_row]
      have xo : ∀ k : Nat, k ≠ 20 + n → X 1 k = W 1 k := fun k hk => by rw [x1, up1_of hk]
      refine h.land1 ⟨hRL.pl hn (fun i i1 i2 i3 i4 => vo i (by omega)) (fun k _ _ _ _ _ _ hk _ _ _ => xo k hk) ⟨by rw [xo 76 (by omega)]; exact hRL.2.2.2.2.2.1, fun _ _ _ => by rw [xo 76 (by omega)]⟩ ⟨by rw [xo 77 (by omega)]; exact hRL.2.2.2.2.2.2.1, fun _ _ _ => by rw [xo 77 (by omega)]⟩ ?_, by rw [xo 79 (by omega)]; exact h.1.2⟩ (fun i hi => vo i (by omega)) (fun i hi => by rw [← f9, up2_c _ _ hi])
      rw [ec, vc, vo (c + 1) (by omega)]
      obtain ⟨p0, p1, p2, p3, p4, p5, p6, p7, p8, p9⟩ := hP
      have d2 : dedX (up1 (up1 (V c) 6 1) 7 (-1)) ↔ dedX (V c) := Iff.rfl
      unfold RPl
      rw [xo 76 (by omega), xo 77 (by omega), xo n (by omega), xo (4 + n) (by omega), xo (8 + n) (by omega), xo (12 + n) (by omega), xo (16 + n) (by omega), x1, up1_at, d2]
      exact ⟨p0, p1, p2, p3, p4, p5, fun j hj => by rw [up1_of (by omega)]; exact p6 j hj, fun _ => Or.inr (Or.inl ⟨rfl, rfl, rfl⟩), p8, p9⟩
theorem w_pour {x y a b : Int} {V V2 J W Jm X : Nat → Nat → Int} {R Rm : Nat → Nat → Nat} (h : WR R V W) (hx : f_s_pour x y V J R (a, V2)) (hm : f_m_pour x y W Jm Rm (b, X)) : a = b ∧ WR R V2 X := by
  unfold f_s_pour at hx
  unfold f_m_pour at hm
  obtain ⟨z1, h1, -, hx⟩ := hx
  obtain ⟨y1, k1, -, hm⟩ := hm
  have hRL := h.1.1
  obtain ⟨e1, q1⟩ := hRL.alive h1 k1
  subst e1
  by_cases g1 : z1 = 0
  · rw [if_pos g1] at hx hm
    exact h.same hx hm
  rw [if_neg g1] at hx hm
  have q1 := q1.on g1
  obtain ⟨z4, h4, -, hx⟩ := hx
  obtain ⟨y4, -, -, hm⟩ := rdb_g hm
  obtain ⟨y5, -, -, hm⟩ := rdb_g hm
  obtain ⟨y6, k6, -, hm⟩ := hm
  have h4 := q_sWithin h4
  have e4 : z4 = y6 := h4.eq (q_mIn k6) Iff.rfl
  subst e4
  by_cases g4 : z4 = 0
  · rw [if_neg (fun hh => hh g4)] at hx hm
    exact h.same hx hm
  rw [if_pos g4] at hx hm
  have g4 := h4.on g4
  clear h4 k6 h1 k1
  obtain ⟨n, rfl⟩ : ∃ n : Nat, x = (n : Int) := ⟨x.toNat, by omega⟩
  have hn : n < 4 := by omega
  have hP := hRL.1 n hn
  obtain ⟨c, ec, hx⟩ := rdb_g hx
  rw [Int.toNat_natCast] at ec
  rw [ec] at hP
  obtain ⟨p0, p1, p2, p3, p4, p5, p6, p7, p8, p9, p10, p11⟩ := hP
  obtain ⟨z8, U, hU, -, hx⟩ := hx
  obtain ⟨-, u2⟩ := q_sWet hU (by omega) (by omega) (by omega)
  obtain ⟨z9, e9, hx⟩ := rdb_g hx
  simp only [rtn, Prod.mk.injEq] at hx
  obtain ⟨rfl, rfl⟩ := hx
  obtain ⟨y9, f9, -, hm⟩ := rdb_g hm
  obtain ⟨y10, f10, -, hm⟩ := rdb_g hm
  obtain ⟨y11, k11, hm⟩ := hm
  have k11 := q_min k11
  obtain ⟨W13, f13, hm⟩ := rdb_g hm
  simp only [rtn, Prod.mk.injEq] at hm
  obtain ⟨rfl, rfl⟩ := hm
  rw [show ((n : Int) + 4).toNat = 4 + n by omega] at f10 f13
  rw [Int.toNat_natCast] at f9
  have ew : a = b := by
    rw [← e9, u2, up2_s, k11, ← f9, ← f10, p1, p2, Int.min_comm]
  refine ⟨ew, ?_⟩
  have vc : V2 c = up1 (V c) 2 a := by rw [← e9, u2, up2_row, up1_at]
  have vo : ∀ i : Nat, i ≠ c → V2 i = V i := fun i hi => by rw [u2, up2_c _ _ hi]
  have x1 : X 1 = up1 (W 1) (4 + n) b := by rw [← f13, up2_row]
  have xo : ∀ k : Nat, k ≠ 4 + n → X 1 k = W 1 k := fun k hk => by rw [x1, up1_of hk]
  have ar : 0 ≤ a ∧ a ≤ 24 := by
    rw [← e9, u2, up2_s]
    omega
  refine h.land1 ⟨hRL.pl hn (fun i i1 i2 i3 i4 => vo i (by omega)) (fun k _ _ hk _ _ _ _ _ _ _ => xo k hk) ⟨by rw [xo 76 (by omega)]; exact hRL.2.2.2.2.2.1, fun _ _ _ => by rw [xo 76 (by omega)]⟩ ⟨by rw [xo 77 (by omega)]; exact hRL.2.2.2.2.2.2.1, fun _ _ _ => by rw [xo 77 (by omega)]⟩ ?_, by rw [xo 79 (by omega)]; exact h.1.2⟩ (fun i hi => vo i (by omega)) (fun i hi => by rw [← f13, up2_c _ _ hi])
  rw [ec, vc, vo (c + 1) (by omega)]
  have d2 : dedX (up1 (V c) 2 a) ↔ dedX (V c) := Iff.rfl
  unfold RPl
  rw [xo 76 (by omega), xo 77 (by omega), xo n (by omega), xo (8 + n) (by omega), xo (12 + n) (by omega), xo (16 + n) (by omega), xo (20 + n) (by omega), x1, up1_at, d2]
  exact ⟨p0, p1, ew.trans up1_at.symm, p3, p4, p5, fun j hj => by rw [up1_of (by omega)]; exact p6 j hj, p7, p8, p9, ar, p11⟩
theorem w_seed {x a b : Int} {V V2 J W Jm X : Nat → Nat → Int} {R Rm : Nat → Nat → Nat} (h : WR R V W) (hx : f_s_seed x V J R (a, V2)) (hm : f_m_seed x W Jm Rm (b, X)) : a = b ∧ WR R V2 X := by
  unfold f_s_seed at hx
  unfold f_m_seed at hm
  obtain ⟨z1, h1, -, hx⟩ := hx
  obtain ⟨y1, k1, -, hm⟩ := hm
  have h1 := q_sWithin h1
  have e1 : z1 = y1 := h1.eq (q_mIn k1) Iff.rfl
  subst e1
  by_cases g1 : z1 = 0
  · rw [if_neg (fun hh => hh g1)] at hx hm
    exact h.same hx hm
  rw [if_pos g1] at hx hm
  have g1 := h1.on g1
  obtain ⟨V4, e4, hx⟩ := rdb_g hx
  obtain ⟨W4, f4, hm⟩ := rdb_g hm
  simp only [rtn, Prod.mk.injEq] at hx hm
  obtain ⟨rfl, rfl⟩ := hx
  obtain ⟨rfl, rfl⟩ := hm
  refine ⟨rfl, ?_⟩
  have v1 : V2 1 = up1 (V 1) 4 x := by rw [← e4, up2_row]
  have vo : ∀ i : Nat, i ≠ 1 → V2 i = V i := fun i hi => by rw [← e4, up2_c _ _ hi]
  have x1 : X 1 = up1 (W 1) 80 x := by rw [← f4, up2_row]
  have hRL := h.1.1
  have x79 : X 1 79 = W 1 79 := by rw [x1, up1_of (by decide)]
  refine h.land1 ⟨hRL.cg (fun i i1 i2 => vo i (by omega)) (fun k hk => by rw [x1, up1_of (by omega)]) (by rw [v1]; rfl) (by rw [v1, x79]; exact hRL.2.2.2.1) (by rw [v1, x1]; rfl) (by rw [x79]; exact hRL.2.2.2.2.2.2.2.2.1) (by rw [x1, up1_at]; exact g1), by rw [x79]; exact h.1.2⟩ (fun i hi => vo i (by omega)) (fun i hi => by rw [← f4, up2_c _ _ hi])
theorem w_days {x a b : Int} {V V2 J W Jm X : Nat → Nat → Int} {R Rm : Nat → Nat → Nat} (h : WR R V W) (hx : f_s_days x V J R (a, V2)) (hm : f_m_days x W Jm Rm (b, X)) : a = b ∧ WR R V2 X := by
  unfold f_s_days at hx
  unfold f_m_days at hm
  obtain ⟨z1, h1, -, hx⟩ := hx
  obtain ⟨y1, k1, -, hm⟩ := hm
  have h1 := q_sWithin h1
  have e1 : z1 = y1 := h1.eq (q_mIn k1) Iff.rfl
  subst e1
  by_cases g1 : z1 = 0
  · rw [if_neg (fun hh => hh g1)] at hx hm
    exact h.same hx hm
  rw [if_pos g1] at hx hm
  obtain ⟨U, hU, hFx, hx⟩ := hx
  obtain ⟨Y, hY, hFm, hm⟩ := hm
  simp only [rdb, rtn, Prod.mk.injEq] at hx hm
  obtain ⟨rfl, rfl⟩ := hx
  obtain ⟨rfl, rfl⟩ := hm
  obtain ⟨r1, r2, r3⟩ := d_days (Or.inl rfl) h.1.1 h.2.2.2.1.1 h.1.2 hU hY
  refine ⟨r1.2.1, h.land ⟨r1.1, r3⟩ (fun i hi => funext fun k => hFx i k (by omega)) (hFx 0 3 (by omega)) (hFm.rw 3 (by decide) (by decide)) (hFm.rw 4 (by decide) (by decide)) (fun i i1 i2 => hFm.rw i (by omega) ?_) (hFm.fl 4 (by decide)) (hFm.fl 53 (by decide))⟩
  rcases (show i = 11 ∨ i = 12 ∨ i = 13 ∨ i = 14 ∨ i = 15 ∨ i = 16 by omega) with rfl | rfl | rfl | rfl | rfl | rfl <;> decide
