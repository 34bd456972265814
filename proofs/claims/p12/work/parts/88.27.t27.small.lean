section
-- card, pour, seed, days, keep, undo (own work)
theorem RLz.isP {b : Nat} {x : Int} {V : Nat → Nat → Int} {N : Nat → Int} (h : RLz b V N) : (0 ≤ x ∧ x < 4 ∧ ¬ V (b + 3 + 2 * x.toNat) 0 = 0) ↔ (0 ≤ x ∧ x < 4 ∧ bt (N 76) x = 1) := by
  constructor
  · rintro ⟨h1, h2, h3⟩
    refine ⟨h1, h2, ?_⟩
    have e := (h.1 x.toNat (by omega)).1
    have r := bt_r (N 76) x
    rw [show ((x.toNat : Nat) : Int) = x by omega] at e
    omega
  · rintro ⟨h1, h2, h3⟩
    refine ⟨h1, h2, ?_⟩
    have e := (h.1 x.toNat (by omega)).1
    rw [show ((x.toNat : Nat) : Int) = x by omega] at e
    omega
theorem RLz.isPe {b : Nat} {x : Int} {V : Nat → Nat → Int} {N : Nat → Int} (h : RLz b V N) : (0 ≤ x ∧ x < 8 ∧ ¬ V (b + 11 + x.toNat) 0 = 0) ↔ (0 ≤ x ∧ x < 8 ∧ bt (N 78) x = 1) := by
  constructor
  · rintro ⟨h1, h2, h3⟩
    refine ⟨h1, h2, ?_⟩
    have e := (h.2.1 x.toNat (by omega)).1
    have r := bt_r (N 78) x
    rw [show ((x.toNat : Nat) : Int) = x by omega] at e
    omega
  · rintro ⟨h1, h2, h3⟩
    refine ⟨h1, h2, ?_⟩
    have e := (h.2.1 x.toNat (by omega)).1
    rw [show ((x.toNat : Nat) : Int) = x by omega] at e
    omega
theorem RLz.isA {b : Nat} {x : Int} {V : Nat → Nat → Int} {N : Nat → Int} (h : RLz b V N) : ((0 ≤ x ∧ x < 4 ∧ ¬ V (b + 3 + 2 * x.toNat) 0 = 0) ∧ ¬ dedX (V (b + 3 + 2 * x.toNat))) ↔ ((0 ≤ x ∧ x < 4 ∧ bt (N 76) x = 1) ∧ ¬ bt (N 77) x = 1) := by
  rw [h.isP]
  constructor
  · rintro ⟨⟨h1, h2, h3⟩, h4⟩
    have e := (h.1 x.toNat (by omega)).2.2.2.2.2.2.2.2.1
    rw [show ((x.toNat : Nat) : Int) = x by omega] at e
    exact ⟨⟨h1, h2, h3⟩, fun hh => h4 (e.mp hh)⟩
  · rintro ⟨⟨h1, h2, h3⟩, h4⟩
    have e := (h.1 x.toNat (by omega)).2.2.2.2.2.2.2.2.1
    rw [show ((x.toNat : Nat) : Int) = x by omega] at e
    exact ⟨⟨h1, h2, h3⟩, fun hh => h4 (e.mpr hh)⟩
/-- both sides agree on who is told and who lives -/
theorem RLz.plant {b : Nat} {x z y : Int} {V J W Jm : Nat → Nat → Int} {R Rm : Nat → Nat → Nat} (h : RLz b V (W 1)) (hx : f_s_isPlant b x V J R z) (hm : f_m_isPlant x W Jm Rm y) : z = y ∧ Sq y (0 ≤ x ∧ x < 4 ∧ bt (W 1 76) x = 1) := ⟨(q_sPlant hx).eq (q_mPlant hm) h.isP, q_mPlant hm⟩
theorem RLz.person {b : Nat} {x z y : Int} {V J W Jm : Nat → Nat → Int} {R Rm : Nat → Nat → Nat} (h : RLz b V (W 1)) (hx : f_s_isPerson b x V J R z) (hm : f_m_isPerson x W Jm Rm y) : z = y ∧ Sq y (0 ≤ x ∧ x < 8 ∧ bt (W 1 78) x = 1) := ⟨(q_sPerson hx).eq (q_mPerson hm) h.isPe, q_mPerson hm⟩
theorem RLz.alive {b : Nat} {x z y : Int} {V J W Jm : Nat → Nat → Int} {R Rm : Nat → Nat → Nat} (h : RLz b V (W 1)) (hx : f_s_isAlive b x V J R z) (hm : f_m_lives x W Jm Rm y) : z = y ∧ Sq y ((0 ≤ x ∧ x < 4 ∧ bt (W 1 76) x = 1) ∧ ¬ bt (W 1 77) x = 1) := ⟨(q_sAlive hx).eq (q_mLives hm) h.isA, q_mLives hm⟩
theorem w_card {x y a b : Int} {V V2 J W Jm X : Nat → Nat → Int} {R Rm : Nat → Nat → Nat} (h : WR R V W) (hy : 0 ≤ y ∧ y ≤ 1) (hx : f_s_card x y V J R (a, V2)) (hm : f_m_card x y W Jm Rm (b, X)) : a = b ∧ WR R V2 X := by
  unfold f_s_card at hx
  unfold f_m_card at hm
  obtain ⟨z1, h1, -, hx⟩ := hx
  obtain ⟨y1, k1, -, hm⟩ := hm
  have hRL := h.1.1
  obtain ⟨e1, q1⟩ := hRL.plant h1 k1
  subst e1
  by_cases g1 : z1 = 0
  · rw [if_pos g1] at hx hm
    exact h.same hx hm
  rw [if_neg g1] at hx hm
  have q1 := q1.on g1
  obtain ⟨n, rfl⟩ : ∃ n : Nat, x = (n : Int) := ⟨x.toNat, by omega⟩
  have hn : n < 4 := by omega
  obtain ⟨c, ec, hx⟩ := rdb_g hx
  rw [Int.toNat_natCast] at ec
  obtain ⟨z5, e5, -, hx⟩ := rdb_g hx
  obtain ⟨z4, e4, hm⟩ := rdb_g hm
  have hm := jnk_if hm
  rw [show ((n : Int) + 20).toNat = 20 + n by omega] at e4 hm
  have hP := hRL.1 n hn
  rw [ec] at hP
  have ht : V c 0 = 1 := hP.1.trans q1.2.2
  have hc := hP.2.2.2.2.2.2.2.1 ht
  by_cases g : ¬ z4 = -2
  · rw [if_pos g] at hm
    have z51 : z5 = 1 := by omega
    by_cases gy : y = 1
    · rw [if_neg (by omega)] at hx hm
      exact h.same hx hm
    · have gy : y = 0 := by omega
      subst gy
      rw [if_pos (by omega)] at hx hm
      rw [if_pos rfl] at hm
      obtain ⟨V7, e7, hx⟩ := rdb_g hx
      obtain ⟨V8, e8, hx⟩ := rdb_g hx
      obtain ⟨W9, f9, hm⟩ := rdb_g hm
      simp only [rtn, Prod.mk.injEq] at hx hm
      obtain ⟨rfl, rfl⟩ := hx
      obtain ⟨rfl, rfl⟩ := hm
      refine ⟨rfl, ?_⟩
      have vc : V2 c = up1 (up1 (V c) 6 0) 7 (-1) := by rw [← e8, up2_row, ← e7, up2_row]
      have vo : ∀ i : Nat, i ≠ c → V2 i = V i := fun i hi => by rw [← e8, up2_c _ _ hi, ← e7, up2_c _ _ hi]
      have x1 : X 1 = up1 (W 1) (20 + n) (-2) := by rw [← f9, up2_row]
      have xo : ∀ k : Nat, k ≠ 20 + n → X 1 k = W 1 k := fun k hk => by rw [x1, up1_of hk]
      refine h.land1 ⟨hRL.pl hn (fun i i1 i2 i3 i4 => vo i (by omega)) (fun k _ _ _ _ _ _ hk _ _ _ => xo k hk) ⟨by rw [xo 76 (by omega)]; exact hRL.2.2.2.2.2.1, fun _ _ _ => by rw [xo 76 (by omega)]⟩ ⟨by rw [xo 77 (by omega)]; exact hRL.2.2.2.2.2.2.1, fun _ _ _ => by rw [xo 77 (by omega)]⟩ ?_, by rw [xo 79 (by omega)]; exact h.1.2⟩ (fun i hi => vo i (by omega)) (fun i hi => by rw [← f9, up2_c _ _ hi])
      rw [ec, vc, vo (c + 1) (by omega)]
      obtain ⟨p0, p1, p2, p3, p4, p5, p6, p7, p8, p9⟩ := hP
      have d2 : dedX (up1 (up1 (V c) 6 0) 7 (-1)) ↔ dedX (V c) := Iff.rfl
      unfold RPl
      rw [xo 76 (by omega), xo 77 (by omega), xo n (by omega), xo (4 + n) (by omega), xo (8 + n) (by omega), xo (12 + n) (by omega), xo (16 + n) (by omega), x1, up1_at, d2]
      exact ⟨p0, p1, p2, p3, p4, p5, fun j hj => by rw [up1_of (by omega)]; exact p6 j hj, fun _ => Or.inl ⟨rfl, rfl⟩, p8, p9⟩
  · rw [if_neg g] at hm
    have z51 : z5 = 0 := by omega
    by_cases gy : y = 0
    · rw [if_neg (by omega)] at hx hm
      exact h.same hx hm
    · have gy : y = 1 := by omega
      subst gy
      rw [if_pos (by omega)] at hx hm
      rw [if_neg (by decide)] at hm
      obtain ⟨V7, e7, hx⟩ := rdb_g hx
      obtain ⟨V8, e8, hx⟩ := rdb_g hx
      obtain ⟨W9, f9, hm⟩ := rdb_g hm
      simp only [rtn, Prod.mk.injEq] at hx hm
      obtain ⟨rfl, rfl⟩ := hx
      obtain ⟨rfl, rfl⟩ := hm
      refine ⟨rfl, ?_⟩
      have vc : V2 c = up1 (up1 (V c) 6 1) 7 (-1) := by rw [← e8, up2_row, ← e7, up2_row]
      have vo : ∀ i : Nat, i ≠ c → V2 i = V i := fun i hi => by rw [← e8, up2_c _ _ hi, ← e7, up2_c _ _ hi]
      have x1 : X 1 = up1 (W 1) (20 + n) (-3) := by rw [← f9, up2_row]
      have xo : ∀ k : Nat, k ≠ 20 + n → X 1 k = W 1 k := fun k hk => by rw [x1, up1_of hk]
      refine h.land1 ⟨hRL.pl hn (fun i i1 i2 i3 i4 => vo i (by omega)) (fun k _ _ _ _ _ _ hk _ _ _ => xo k hk) ⟨by rw [xo 76 (by omega)]; exact hRL.2.2.2.2.2.1, fun _ _ _ => by rw [xo 76 (by omega)]⟩ ⟨by rw [xo 77 (by omega)]; exact hRL.2.2.2.2.2.2.1, fun _ _ _ => by rw [xo 77 (by omega)]⟩ ?_, by rw [xo 79 (by omega)]; exact h.1.2⟩ (fun i hi => vo i (by omega)) (fun i hi => by rw [← f9, up2_c _ _ hi])
      rw [ec, vc, vo (c + 1) (by omega)]
      obtain ⟨p0, p1, p2, p3, p4, p5, p6, p7, p8, p9⟩ := hP
      have d2 : dedX (up1 (up1 (V c) 6 1) 7 (-1)) ↔ dedX (V c) := Iff.rfl
      unfold RPl
      rw [xo 76 (by omega), xo 77 (by omega), xo n (by omega), xo (4 + n) (by omega), xo (8 + n) (by omega), xo (12 + n) (by omega), xo (16 + n) (by omega), x1, up1_at, d2]
      exact ⟨p0, p1, p2, p3, p4, p5, fun j hj => by rw [up1_of (by omega)]; exact p6 j hj, fun _ => Or.inr (Or.inl ⟨rfl, rfl, rfl⟩), p8, p9⟩
theorem w_pour {x y a b : Int} {V V2 J W Jm X : Nat → Nat → Int} {R Rm : Nat → Nat → Nat} (h : WR R V W) (hx : f_s_pour x y V J R (a, V2)) (hm : f_m_pour x y W Jm Rm (b, X)) : a = b ∧ WR R V2 X := by
  unfold f_s_pour at hx
  unfold f_m_pour at hm
  obtain ⟨z1, h1, -, hx⟩ := hx
  obtain ⟨y1, k1, -, hm⟩ := hm
  have hRL := h.1.1
  obtain ⟨e1, q1⟩ := hRL.alive h1 k1
  subst e1
  by_cases g1 : z1 = 0
  · rw [if_pos g1] at hx hm
    exact h.same hx hm
  rw [if_neg g1] at hx hm
  have q1 := q1.on g1
  obtain ⟨z4, h4, -, hx⟩ := hx
  obtain ⟨y4, -, -, hm⟩ := rdb_g hm
  obtain ⟨y5, -, -, hm⟩ := rdb_g hm
  obtain ⟨y6, k6, -, hm⟩ := hm
  have h4 := q_sWithin h4
  have e4 : z4 = y6 := h4.eq (q_mIn k6) Iff.rfl
  subst e4
  by_cases g4 : z4 = 0
  · rw [if_neg (fun hh => hh g4)] at hx hm
    exact h.same hx hm
  rw [if_pos g4] at hx hm
  have g4 := h4.on g4
  clear h4 k6 h1 k1
  obtain ⟨n, rfl⟩ : ∃ n : Nat, x = (n : Int) := ⟨x.toNat, by omega⟩
  have hn : n < 4 := by omega
  have hP := hRL.1 n hn
  obtain ⟨c, ec, hx⟩ := rdb_g hx
  rw [Int.toNat_natCast] at ec
  rw [ec] at hP
  obtain ⟨p0, p1, p2, p3, p4, p5, p6, p7, p8, p9, p10, p11⟩ := hP
  obtain ⟨z8, U, hU, -, hx⟩ := hx
  obtain ⟨-, u2⟩ := q_sWet hU (by omega) (by omega) (by omega)
  obtain ⟨z9, e9, hx⟩ := rdb_g hx
  simp only [rtn, Prod.mk.injEq] at hx
  obtain ⟨rfl, rfl⟩ := hx
  obtain ⟨y9, f9, -, hm⟩ := rdb_g hm
  obtain ⟨y10, f10, -, hm⟩ := rdb_g hm
  obtain ⟨y11, k11, hm⟩ := hm
  have k11 := q_min k11
  obtain ⟨W13, f13, hm⟩ := rdb_g hm
  simp only [rtn, Prod.mk.injEq] at hm
  obtain ⟨rfl, rfl⟩ := hm
  rw [show ((n : Int) + 4).toNat = 4 + n by omega] at f10 f13
  rw [Int.toNat_natCast] at f9
  have ew : a = b := by
    rw [← e9, u2, up2_s, k11, ← f9, ← f10, p1, p2, Int.min_comm]
  refine ⟨ew, ?_⟩
  have vc : V2 c = up1 (V c) 2 a := by rw [← e9, u2, up2_row, up1_at]
  have vo : ∀ i : Nat, i ≠ c → V2 i = V i := fun i hi => by rw [u2, up2_c _ _ hi]
  have x1 : X 1 = up1 (W 1) (4 + n) b := by rw [← f13, up2_row]
  have xo : ∀ k : Nat, k ≠ 4 + n → X 1 k = W 1 k := fun k hk => by rw [x1, up1_of hk]
  have ar : 0 ≤ a ∧ a ≤ 24 := by
    rw [← e9, u2, up2_s]
    omega
  refine h.land1 ⟨hRL.pl hn (fun i i1 i2 i3 i4 => vo i (by omega)) (fun k _ _ hk _ _ _ _ _ _ _ => xo k hk) ⟨by rw [xo 76 (by omega)]; exact hRL.2.2.2.2.2.1, fun _ _ _ => by rw [xo 76 (by omega)]⟩ ⟨by rw [xo 77 (by omega)]; exact hRL.2.2.2.2.2.2.1, fun _ _ _ => by rw [xo 77 (by omega)]⟩ ?_, by rw [xo 79 (by omega)]; exact h.1.2⟩ (fun i hi => vo i (by omega)) (fun i hi => by rw [← f13, up2_c _ _ hi])
  rw [ec, vc, vo (c + 1) (by omega)]
  have d2 : dedX (up1 (V c) 2 a) ↔ dedX (V c) := Iff.rfl
  unfold RPl
  rw [xo 76 (by omega), xo 77 (by omega), xo n (by omega), xo (8 + n) (by omega), xo (12 + n) (by omega), xo (16 + n) (by omega), xo (20 + n) (by omega), x1, up1_at, d2]
  exact ⟨p0, p1, ew.trans up1_at.symm, p3, p4, p5, fun j hj => by rw [up1_of (by omega)]; exact p6 j hj, p7, p8, p9, ar, p11⟩
theorem w_seed {x a b : Int} {V V2 J W Jm X : Nat → Nat → Int} {R Rm : Nat → Nat → Nat} (h : WR R V W) (hx : f_s_seed x V J R (a, V2)) (hm : f_m_seed x W Jm Rm (b, X)) : a = b ∧ WR R V2 X := by
  unfold f_s_seed at hx
  unfold f_m_seed at hm
  obtain ⟨z1, h1, -, hx⟩ := hx
  obtain ⟨y1, k1, -, hm⟩ := hm
  have h1 := q_sWithin h1
  have e1 : z1 = y1 := h1.eq (q_mIn k1) Iff.rfl
  subst e1
  by_cases g1 : z1 = 0
  · rw [if_neg (fun hh => hh g1)] at hx hm
    exact h.same hx hm
  rw [if_pos g1] at hx hm
  have g1 := h1.on g1
  obtain ⟨V4, e4, hx⟩ := rdb_g hx
  obtain ⟨W4, f4, hm⟩ := rdb_g hm
  simp only [rtn, Prod.mk.injEq] at hx hm
  obtain ⟨rfl, rfl⟩ := hx
  obtain ⟨rfl, rfl⟩ := hm
  refine ⟨rfl, ?_⟩
  have v1 : V2 1 = up1 (V 1) 4 x := by rw [← e4, up2_row]
  have vo : ∀ i : Nat, i ≠ 1 → V2 i = V i := fun i hi => by rw [← e4, up2_c _ _ hi]
  have x1 : X 1 = up1 (W 1) 80 x := by rw [← f4, up2_row]
  have hRL := h.1.1
  have x79 : X 1 79 = W 1 79 := by rw [x1, up1_of (by decide)]
  refine h.land1 ⟨hRL.cg (fun i i1 i2 => vo i (by omega)) (fun k hk => by rw [x1, up1_of (by omega)]) (by rw [v1]; rfl) (by rw [v1, x79]; exact hRL.2.2.2.1) (by rw [v1, x1]; rfl) (by rw [x79]; exact hRL.2.2.2.2.2.2.2.2.1) (by rw [x1, up1_at]; exact g1), by rw [x79]; exact h.1.2⟩ (fun i hi => vo i (by omega)) (fun i hi => by rw [← f4, up2_c _ _ hi])
theorem w_days {x a b : Int} {V V2 J W Jm X : Nat → Nat → Int} {R Rm : Nat → Nat → Nat} (h : WR R V W) (hx : f_s_days x V J R (a, V2)) (hm : f_m_days x W Jm Rm (b, X)) : a = b ∧ WR R V2 X := by
  unfold f_s_days at hx
  unfold f_m_days at hm
  obtain ⟨z1, h1, -, hx⟩ := hx
  obtain ⟨y1, k1, -, hm⟩ := hm
  have h1 := q_sWithin h1
  have e1 : z1 = y1 := h1.eq (q_mIn k1) Iff.rfl
  subst e1
  by_cases g1 : z1 = 0
  · rw [if_neg (fun hh => hh g1)] at hx hm
    exact h.same hx hm
  rw [if_pos g1] at hx hm
  obtain ⟨U, hU, hFx, hx⟩ := hx
  obtain ⟨Y, hY, hFm, hm⟩ := hm
  simp only [rdb, rtn, Prod.mk.injEq] at hx hm
  obtain ⟨rfl, rfl⟩ := hx
  obtain ⟨rfl, rfl⟩ := hm
  obtain ⟨r1, r2, r3⟩ := d_days (Or.inl rfl) h.1.1 h.2.2.2.1.1 h.1.2 hU hY
  refine ⟨r1.2.1, h.land ⟨r1.1, r3⟩ (fun i hi => funext fun k => hFx i k (by omega)) (hFx 0 3 (by omega)) (hFm.rw 3 (by decide) (by decide)) (hFm.rw 4 (by decide) (by decide)) (fun i i1 i2 => hFm.rw i (by omega) ?_) (hFm.fl 4 (by decide)) (hFm.fl 53 (by decide))⟩
  rcases (show i = 11 ∨ i = 12 ∨ i = 13 ∨ i = 14 ∨ i = 15 ∨ i = 16 by omega) with rfl | rfl | rfl | rfl | rfl | rfl <;> decide
end
section
-- kept and undone; the tape (own work)
theorem cpV_at {V : Nat → Nat → Int} {i j n k : Nat} (h : k < n) : cpV V i 0 j 0 n j k = V i k := by
  unfold cpV
  rw [if_pos ⟨rfl, by omega, by omega⟩, Nat.zero_add, Nat.sub_zero]
theorem cpV_o {V : Nat → Nat → Int} {i j n q : Nat} (h : q ≠ j) : cpV V i 0 j 0 n q = V q := by
  funext k
  unfold cpV
  rw [if_neg (fun hh => h hh.1)]
/-- a landing's cells -/
def SL (d s : Nat) (U V : Nat → Nat → Int) : Prop := (∀ l : Nat, l < 4 → (∀ j : Nat, j < 8 → U (d + 3 + 2 * l) j = V (s + 3 + 2 * l) j) ∧ ∀ j : Nat, j < 7 → U (d + 3 + 2 * l + 1) j = V (s + 3 + 2 * l + 1) j) ∧ (∀ p : Nat, p < 8 → ∀ j : Nat, j < 4 → U (d + 11 + p) j = V (s + 11 + p) j) ∧ ∀ j : Nat, 2 ≤ j → j < 5 → U d j = V s j
theorem RLz.copy {d s : Nat} {U V : Nat → Nat → Int} {N M : Nat → Int} (h : RLz s V N) (hc : SL d s U V) (hN : ∀ k : Nat, k < 81 → M k = N k) : RLz d U M := by
  obtain ⟨a1, a2, a3, a4, a5, a6, a7, a8, a9, a10⟩ := h
  obtain ⟨c1, c2, c3⟩ := hc
  refine ⟨fun l hl => ((a1 l hl).cl (c1 l hl).1 (c1 l hl).2).cg rfl rfl (fun j hj => hN j (by omega)) (by rw [hN 76 (by decide)]) (by rw [hN 77 (by decide)]), fun p hp => ?_, by rw [c3 2 (by decide) (by decide), hN 78 (by decide)]; exact a3, by rw [c3 3 (by decide) (by decide), hN 79 (by decide)]; exact a4, by rw [c3 4 (by decide) (by decide), hN 80 (by decide)]; exact a5, by rw [hN 76 (by decide)]; exact a6, by rw [hN 77 (by decide)]; exact a7, by rw [hN 78 (by decide)]; exact a8, by rw [hN 79 (by decide)]; exact a9, by rw [hN 80 (by decide)]; exact a10⟩
  have k := a2 p hp
  unfold RPe at k ⊢
  rw [c2 p hp 0 (by decide), c2 p hp 1 (by decide), c2 p hp 2 (by decide), c2 p hp 3 (by decide), hN 78 (by decide), hN (52 + p) (by omega), hN (60 + p) (by omega), hN (68 + p) (by omega)]
  exact k
theorem q_copyE {c s : Nat} {V J U : Nat → Nat → Int} {R : Nat → Nat → Nat} (hne : s ≠ c) (h : f_s_copyE c s V J R U) : (∀ i : Nat, i ≠ c → U i = V i) ∧ ∀ j : Nat, j < 4 → U c j = V s j := by
  unfold f_s_copyE at h
  obtain ⟨z0, a0, -, h⟩ := rdb_g h
  obtain ⟨V2, e2, h⟩ := rdb_g h
  obtain ⟨z1, a1, h⟩ := rdb_g h
  obtain ⟨V4, e4, h⟩ := rdb_g h
  obtain ⟨z2, a2, -, h⟩ := rdb_g h
  obtain ⟨V6, e6, h⟩ := rdb_g h
  obtain ⟨z3, a3, h⟩ := rdb_g h
  obtain ⟨V8, e8, h⟩ := rdb_g h
  have h : U = V8 := h
  subst h
  rw [← e2, up2_c _ _ hne] at a1
  rw [← e4, up2_c _ _ hne, ← e2, up2_c _ _ hne] at a2
  rw [← e6, up2_c _ _ hne, ← e4, up2_c _ _ hne, ← e2, up2_c _ _ hne] at a3
  have uc : U c = up1 (up1 (up1 (up1 (V c) 0 z0) 1 z1) 2 z2) 3 z3 := by rw [← e8, up2_row, ← e6, up2_row, ← e4, up2_row, ← e2, up2_row]
  refine ⟨fun i hi => by rw [← e8, up2_c _ _ hi, ← e6, up2_c _ _ hi, ← e4, up2_c _ _ hi, ← e2, up2_c _ _ hi], fun j hj => ?_⟩
  rw [uc]
  rcases (show j = 0 ∨ j = 1 ∨ j = 2 ∨ j = 3 by omega) with rfl | rfl | rfl | rfl
  · exact a0.symm
  · exact a1.symm
  · exact a2.symm
  · exact a3.symm
theorem q_copyP {c s : Nat} {V J U : Nat → Nat → Int} {R : Nat → Nat → Nat} (hne : s ≠ c ∧ s + 1 ≠ c) (h : f_s_copyPu c s V J R U) : (∀ i : Nat, i ≠ c → i ≠ c + 1 → U i = V i) ∧ (∀ j : Nat, j < 8 → U c j = V s j) ∧ ∀ j : Nat, j < 7 → U (c + 1) j = V (s + 1) j := by
  obtain ⟨hn, hn1⟩ := hne
  unfold f_s_copyPu at h
  obtain ⟨z0, a0, -, h⟩ := rdb_g h
  obtain ⟨V0, e0, h⟩ := rdb_g h
  obtain ⟨z1, a1, h⟩ := rdb_g h
  obtain ⟨V1, e1, h⟩ := rdb_g h
  obtain ⟨z2, a2, h⟩ := rdb_g h
  obtain ⟨V2, e2, h⟩ := rdb_g h
  obtain ⟨z3, a3, h⟩ := rdb_g h
  obtain ⟨V3, e3, h⟩ := rdb_g h
  obtain ⟨z4, a4, h⟩ := rdb_g h
  obtain ⟨V4, e4, h⟩ := rdb_g h
  obtain ⟨z5, a5, h⟩ := rdb_g h
  obtain ⟨V5, e5, h⟩ := rdb_g h
  obtain ⟨z6, a6, -, h⟩ := rdb_g h
  obtain ⟨V6, e6, h⟩ := rdb_g h
  obtain ⟨z7, a7, h⟩ := rdb_g h
  obtain ⟨V7, e7, h⟩ := rdb_g h
  obtain ⟨V8, e8, h⟩ := rdb_g h
  have h : U = V8 := h
  subst h
  have o0 : ∀ i : Nat, i ≠ c → V0 i = V i := fun i hi => by rw [← e0, up2_c _ _ hi]
  have o1 : ∀ i : Nat, i ≠ c → V1 i = V i := fun i hi => by rw [← e1, up2_c _ _ hi, o0 i hi]
  have o2 : ∀ i : Nat, i ≠ c → V2 i = V i := fun i hi => by rw [← e2, up2_c _ _ hi, o1 i hi]
  have o3 : ∀ i : Nat, i ≠ c → V3 i = V i := fun i hi => by rw [← e3, up2_c _ _ hi, o2 i hi]
  have o4 : ∀ i : Nat, i ≠ c → V4 i = V i := fun i hi => by rw [← e4, up2_c _ _ hi, o3 i hi]
  have o5 : ∀ i : Nat, i ≠ c → V5 i = V i := fun i hi => by rw [← e5, up2_c _ _ hi, o4 i hi]
  have o6 : ∀ i : Nat, i ≠ c → V6 i = V i := fun i hi => by rw [← e6, up2_c _ _ hi, o5 i hi]
  have o7 : ∀ i : Nat, i ≠ c → V7 i = V i := fun i hi => by rw [← e7, up2_c _ _ hi, o6 i hi]
  rw [o0 s hn] at a1
  rw [o1 s hn] at a2
  rw [o2 s hn] at a3
  rw [o3 s hn] at a4
  rw [o4 s hn] at a5
  rw [o5 s hn] at a6
  rw [o6 s hn] at a7
  have uc : U c = up1 (up1 (up1 (up1 (up1 (up1 (up1 (up1 (V c) 0 z0) 1 z1) 2 z2) 3 z3) 4 z4) 5 z5) 6 z6) 7 z7 := by
    rw [← e8, cpV_o (by omega), ← e7, up2_row, ← e6, up2_row, ← e5, up2_row, ← e4, up2_row, ← e3, up2_row, ← e2, up2_row, ← e1, up2_row, ← e0, up2_row]
  refine ⟨fun i hi h2 => by rw [← e8, cpV_o h2, o7 i hi], fun j hj => ?_, fun j hj => by rw [← e8, cpV_at hj, o7 (s + 1) hn1]⟩
  rw [uc]
  rcases (show j = 0 ∨ j = 1 ∨ j = 2 ∨ j = 3 ∨ j = 4 ∨ j = 5 ∨ j = 6 ∨ j = 7 by omega) with rfl | rfl | rfl | rfl | rfl | rfl | rfl | rfl
  · exact a0.symm
  · exact a1.symm
  · exact a2.symm
  · exact a3.symm
  · exact a4.symm
  · exact a5.symm
  · exact a6.symm
  · exact a7.symm
theorem q_copy {d s : Nat} {V J U : Nat → Nat → Int} {Rr : Nat → Nat → Nat} (hds : d + 18 < s ∨ s + 18 < d)
    (h : lop2 (6) (fun rc161 (z160 : Int) (V161 : Nat → Nat → Int) => (if 4 ≤ z160 then lop2 (10) (fun rc288 (z287 : Int) (V288 : Nat → Nat → Int) => (if 8 ≤ z287 then rdb (V288 s 2) fun z306 => rdb (up2 V288 d 2 z306) fun V307 => rdb (V307 s 3) fun z308 => rdb (up2 V307 d 3 z308) fun V309 => rdb (V309 s 4) fun z310 => rdb (up2 V309 d 4 z310) fun V311 => rtn V311 else rdb (d + 11 + 1 * z287.toNat) fun c312 => rdb (s + 11 + 1 * z287.toNat) fun c313 => calUX (fun i k : Nat => (c312 ≤ i ∧ i ≤ c312)) V288 (f_s_copyE c312 c313 V288 J Rr) fun V314 => rc288 (z287 + 1) V314)) 0 V161 else rdb (d + 3 + 2 * z160.toNat) fun c315 => rdb (s + 3 + 2 * z160.toNat) fun c316 => calUX (fun i k : Nat => (c315 ≤ i ∧ i ≤ c315 + 1)) V161 (f_s_copyPu c315 c316 V161 J Rr) fun V317 => rc161 (z160 + 1) V317)) 0 V U) :
    SL d s U V ∧ ∀ i : Nat, ¬ (d ≤ i ∧ i ≤ d + 18) → U i = V i := by
  obtain ⟨b, hb, h⟩ := lop2_g h
  have inner : ∀ (n p : Nat) (W : Nat → Nat → Int) (b2 : (Int → (Nat → Nat → Int) → (Nat → Nat → Int) → Prop) → Int → (Nat → Nat → Int) → (Nat → Nat → Int) → Prop), b2 = (fun rc288 (z287 : Int) (V288 : Nat → Nat → Int) => (if 8 ≤ z287 then rdb (V288 s 2) fun z306 => rdb (up2 V288 d 2 z306) fun V307 => rdb (V307 s 3) fun z308 => rdb (up2 V307 d 3 z308) fun V309 => rdb (V309 s 4) fun z310 => rdb (up2 V309 d 4 z310) fun V311 => rtn V311 else rdb (d + 11 + 1 * z287.toNat) fun c312 => rdb (s + 11 + 1 * z287.toNat) fun c313 => calUX (fun i k : Nat => (c312 ≤ i ∧ i ≤ c312)) V288 (f_s_copyE c312 c313 V288 J Rr) fun V314 => rc288 (z287 + 1) V314)) →
      (∀ l : Nat, l < 4 → (∀ j : Nat, j < 8 → W (d + 3 + 2 * l) j = V (s + 3 + 2 * l) j) ∧ ∀ j : Nat, j < 7 → W (d + 3 + 2 * l + 1) j = V (s + 3 + 2 * l + 1) j) → (∀ q : Nat, q < p → q < 8 → ∀ j : Nat, j < 4 → W (d + 11 + q) j = V (s + 11 + q) j) → (∀ i : Nat, ¬ (d ≤ i ∧ i ≤ d + 18) → W i = V i) → lop2 n b2 (p : Int) W U → SL d s U V ∧ ∀ i : Nat, ¬ (d ≤ i ∧ i ≤ d + 18) → U i = V i := by
    intro n
    induction n with
    | zero => intro p W b2 _ _ _ _ h; exact False.elim h
    | succ n ih =>
      intro p W b2 hb2 h1 h2 h3 h
      rw [lop2_s hb2] at h
      by_cases g : (8 : Int) ≤ p
      · rw [if_pos g] at h
        obtain ⟨z2, a2, h⟩ := rdb_g h
        obtain ⟨V2, e2, h⟩ := rdb_g h
        obtain ⟨z3, a3, h⟩ := rdb_g h
        obtain ⟨V3, e3, h⟩ := rdb_g h
        obtain ⟨z4, a4, h⟩ := rdb_g h
        obtain ⟨V4, e4, h⟩ := rdb_g h
        have h : U = V4 := h
        subst h
        have ns : s ≠ d := by omega
        rw [h3 s (by omega)] at a2
        rw [← e2, up2_c _ _ ns, h3 s (by omega)] at a3
        rw [← e3, up2_c _ _ ns, ← e2, up2_c _ _ ns, h3 s (by omega)] at a4
        have uo : ∀ i : Nat, i ≠ d → U i = W i := fun i hi => by rw [← e4, up2_c _ _ hi, ← e3, up2_c _ _ hi, ← e2, up2_c _ _ hi]
        have ud : U d = up1 (up1 (up1 (W d) 2 z2) 3 z3) 4 z4 := by rw [← e4, up2_row, ← e3, up2_row, ← e2, up2_row]
        refine ⟨⟨fun l hl => ⟨fun j hj => by rw [uo _ (by omega)]; exact (h1 l hl).1 j hj, fun j hj => by rw [uo _ (by omega)]; exact (h1 l hl).2 j hj⟩, fun q hq j hj => by rw [uo _ (by omega)]; exact h2 q (by omega) hq j hj, fun j j1 j2 => ?_⟩, fun i hi => by rw [uo i (by omega)]; exact h3 i hi⟩
        rw [ud]
        rcases (show j = 2 ∨ j = 3 ∨ j = 4 by omega) with rfl | rfl | rfl
        · exact a2.symm
        · exact a3.symm
        · exact a4.symm
      · rw [if_neg g] at h
        obtain ⟨c, ec, h⟩ := rdb_g h
        obtain ⟨t, et, h⟩ := rdb_g h
        obtain ⟨W2, hW, -, hq0⟩ := h
        rw [Int.toNat_natCast, Nat.one_mul] at ec et
        subst ec et
        obtain ⟨o1, o2⟩ := q_copyE (by omega) hW
        refine ih (p + 1) W2 b2 hb2 (fun l hl => ⟨fun j hj => by rw [o1 _ (by omega)]; exact (h1 l hl).1 j hj, fun j hj => by rw [o1 _ (by omega)]; exact (h1 l hl).2 j hj⟩) (fun q hq hq8 j hj => ?_) (fun i hi => by rw [o1 i (by omega)]; exact h3 i hi) (by rw [Int.natCast_add]; exact hq0)
        by_cases e : q = p
        · subst e
          rw [o2 j hj, h3 _ (by omega)]
        · rw [o1 _ (by omega)]
          exact h2 q (by omega) hq8 j hj
  have outer : ∀ (n l : Nat) (W : Nat → Nat → Int), (∀ q : Nat, q < l → q < 4 → (∀ j : Nat, j < 8 → W (d + 3 + 2 * q) j = V (s + 3 + 2 * q) j) ∧ ∀ j : Nat, j < 7 → W (d + 3 + 2 * q + 1) j = V (s + 3 + 2 * q + 1) j) → (∀ i : Nat, ¬ (d ≤ i ∧ i ≤ d + 18) → W i = V i) → lop2 n b (l : Int) W U → SL d s U V ∧ ∀ i : Nat, ¬ (d ≤ i ∧ i ≤ d + 18) → U i = V i := by
    intro n
    induction n with
    | zero => intro p W _ _ h; exact False.elim h
    | succ n ih =>
      intro p W h1 h3 h
      rw [lop2_s hb] at h
      by_cases g : (4 : Int) ≤ p
      · rw [if_pos g] at h
        exact inner 10 0 W _ rfl (fun l hl => h1 l (by omega) hl) (fun q hq => absurd hq (by omega)) h3 h
      · rw [if_neg g] at h
        obtain ⟨c, ec, h⟩ := rdb_g h
        obtain ⟨t, et, h⟩ := rdb_g h
        obtain ⟨W2, hW, -, hq0⟩ := h
        rw [Int.toNat_natCast] at ec et
        subst ec et
        obtain ⟨o1, o2, o3⟩ := q_copyP ⟨by omega, by omega⟩ hW
        refine ih (p + 1) W2 (fun q hq hq4 => ?_) (fun i hi => by rw [o1 i (by omega) (by omega)]; exact h3 i hi) (by rw [Int.natCast_add]; exact hq0)
        by_cases e : q = p
        · subst e
          exact ⟨fun j hj => by rw [o2 j hj, h3 _ (by omega)], fun j hj => by rw [o3 j hj, h3 _ (by omega)]⟩
        · exact ⟨fun j hj => by rw [o1 _ (by omega) (by omega)]; exact (h1 q (by omega) hq4).1 j hj, fun j hj => by rw [o1 _ (by omega) (by omega)]; exact (h1 q (by omega) hq4).2 j hj⟩
  exact outer 6 0 V (fun q hq => absurd hq (by omega)) (fun _ _ => rfl) h
theorem w_undo {a b : Int} {V V2 J W Jm X : Nat → Nat → Int} {R Rm : Nat → Nat → Nat} (h : WR R V W) (hx : f_s_undo V J R (a, V2)) (hm : f_m_undo W Jm Rm (b, X)) : a = b ∧ WR R V2 X := by
  unfold f_s_undo at hx
  unfold f_m_undo at hm
  obtain ⟨z1, e1, -, hx⟩ := rdb_g hx
  obtain ⟨y1, f1, -, hm⟩ := rdb_g hm
  have e : z1 = y1 := by rw [← e1, ← f1]; exact h.2.1
  subst e
  by_cases g1 : z1 = 0
  · rw [if_neg (fun hh => hh g1)] at hx hm
    exact h.same hx hm
  rw [if_pos g1] at hx hm
  obtain ⟨U, hU, -, hx⟩ := hx
  simp only [rdb, rtn, Prod.mk.injEq] at hx hm
  obtain ⟨rfl, rfl⟩ := hx
  obtain ⟨rfl, rfl⟩ := hm
  refine ⟨rfl, ?_⟩
  obtain ⟨u1, u2⟩ := q_copy (d := 1) (s := 20) (by omega) hU
  obtain ⟨k1, k2⟩ := h.2.2.1.resolve_left (by omega)
  have e3 : ∀ k : Nat, k < 81 → cpN W 3 1 81 1 k = W 3 k := fun k hk => cpN_at hk
  exact h.land1 ⟨k1.copy u1 e3, by rw [e3 79 (by decide)]; exact k2⟩ (fun i hi => u2 i (by omega)) (fun i hi => cpN_n hi)
theorem w_keep {a b : Int} {V V2 J W Jm X : Nat → Nat → Int} {R Rm : Nat → Nat → Nat} (h : WR R V W) (hx : f_s_keep V J R (a, V2)) (hm : f_m_keep W Jm Rm (b, X)) : WR R V2 X ∧ V2 = up2 V2 0 3 1 ∧ SL 20 1 V2 V ∧ (∀ i : Nat, i ≠ 0 → ¬ (20 ≤ i ∧ i ≤ 38) → V2 i = V i) ∧ X = cpN (up2 W 0 53 1) 1 3 81 ∧ (∃ bX, bX = (fun rc35 (z32 : Int) (z33 : Int) => (if 4 ≤ z32 then rtn (z33, V2) else rdb (1 + 3 + 2 * z32.toNat) fun c41 => rdb (V2 c41 2) fun z42 => rdb (wr (z33 + z42)) fun z43 => rc35 (z32 + 1) z43)) ∧ lop2 6 bX 0 0 (a, V2)) := by
  unfold f_s_keep at hx
  unfold f_m_keep at hm
  obtain ⟨U, hU, -, hx⟩ := hx
  obtain ⟨V3, e3, hx⟩ := rdb_g hx
  obtain ⟨W1, f1, hm⟩ := rdb_g hm
  obtain ⟨W2, f2, hm⟩ := rdb_g hm
  obtain ⟨u1, u2⟩ := q_copy (d := 20) (s := 1) (by omega) hU
  obtain ⟨bX, hbX, hx9⟩ := lop2_g hx
  obtain ⟨bM, hbM, hm9⟩ := lop2_g hm
  have kx : ∀ (n : Nat) (l s : Int), lop2 n bX l s (a, V2) → V2 = V3 := by
    intro n
    induction n with
    | zero => intro l s h; exact False.elim h
    | succ n ih =>
      intro l s h
      rw [lop2_s hbX] at h
      by_cases g : 4 ≤ l
      · rw [if_pos g] at h
        simp only [rtn, Prod.mk.injEq] at h
        exact h.2
      · rw [if_neg g] at h
        exact ih _ _ h
  have km : ∀ (n : Nat) (l s : Int), lop2 n bM l s (b, X) → X = W2 := by
    intro n
    induction n with
    | zero => intro l s h; exact False.elim h
    | succ n ih =>
      intro l s h
      rw [lop2_s hbM] at h
      by_cases g : 4 ≤ l
      · rw [if_pos g] at h
        simp only [rtn, Prod.mk.injEq] at h
        exact h.2
      · rw [if_neg g] at h
        obtain ⟨z, -, -, h⟩ := h
        have h := jnk_d h
        by_cases g2 : z = 0
        · rw [if_pos g2] at h
          exact ih _ _ h
        · rw [if_neg g2] at h
          obtain ⟨y, -, -, h⟩ := rdb_g h
          exact ih _ _ h
  have ev := kx _ _ _ hx9
  have em := km _ _ _ hm9
  subst ev em
  subst e3 f2 f1
  have vo : ∀ i : Nat, i ≠ 0 → up2 U 0 3 1 i = U i := fun i hi => up2_c _ _ hi
  have s1 : SL 20 1 (up2 U 0 3 1) V := ⟨fun l hl => ⟨fun j hj => by rw [vo _ (by omega)]; exact (u1.1 l hl).1 j hj, fun j hj => by rw [vo _ (by omega)]; exact (u1.1 l hl).2 j hj⟩, fun q hq j hj => by rw [vo _ (by omega)]; exact u1.2.1 q hq j hj, fun j j1 j2 => by rw [vo _ (by omega)]; exact u1.2.2 j j1 j2⟩
  have vo2 : ∀ i : Nat, i ≠ 0 → ¬ (20 ≤ i ∧ i ≤ 38) → up2 U 0 3 1 i = V i := fun i hi h2 => by rw [vo i hi]; exact u2 i (by omega)
  have x1 : cpN (up2 W 0 53 1) 1 3 81 1 = W 1 := by rw [cpN_n (by decide), up2_c _ _ (by decide)]
  have x3 : ∀ k : Nat, k < 81 → cpN (up2 W 0 53 1) 1 3 81 3 k = W 1 k := fun k hk => by rw [cpN_at hk, up2_c _ _ (by decide)]
  have xo : ∀ i : Nat, i ≠ 0 → i ≠ 3 → cpN (up2 W 0 53 1) 1 3 81 i = W i := fun i hi h3 => by rw [cpN_n h3, up2_c _ _ hi]
  have x04 : cpN (up2 W 0 53 1) 1 3 81 0 4 = W 0 4 := by rw [cpN_n (by decide), up2_n _ _ (Or.inr (by decide))]
  refine ⟨?_, ?_, s1, vo2, rfl, bX, hbX, hx9⟩
  · obtain ⟨⟨a1, a2⟩, a3, a4, ⟨a5, a6⟩, a7⟩ := h
    refine ⟨⟨a1.cg2 (fun i i1 i2 => vo2 i (by omega) (by omega)) (fun k hk => by rw [x1]), by rw [x1]; exact a2⟩, ?_, Or.inr ⟨a1.copy s1 x3, by rw [x3 79 (by decide)]; exact a2⟩, ⟨a5.cg (fun i i1 i2 i3 => vo2 i (by omega) (by omega)) (fun i i1 i2 => xo i (by omega) (by omega)), a6⟩, a7.cg (by rw [vo2 58 (by decide) (by decide)]) (vo2 59 (by decide) (by decide)) x04 (xo 4 (by decide) (by decide))⟩
    rw [up2_s, cpN_n (by decide), up2_s]
  · exact (up2_same (up2_s _ _ _ _)).symm
end
section
-- the tape: bytes told, numbers read, emptied (own work)
theorem iB_255 (a : Int) : iAnd (iB a) 255 = iAnd a 255 := by
  unfold iAnd iB
  rw [Int32.ofInt_toInt]
  generalize Int32.ofInt a = w
  have e : w.toInt8.toInt32 &&& Int32.ofInt 255 = w &&& Int32.ofInt 255 := by
    apply Int32.toBitVec_inj.mp
    rw [Int32.toBitVec_and, Int32.toBitVec_and, Int8.toBitVec_toInt32, Int32.toBitVec_toInt8]
    apply BitVec.eq_of_getLsbD_eq
    intro i hi
    rw [BitVec.getLsbD_and, BitVec.getLsbD_and]
    have h8 : ∀ j : Nat, j < 32 → 8 ≤ j → (Int32.ofInt 255).toBitVec.getLsbD j = false := by decide
    by_cases g : i < 8
    · rw [BitVec.getLsbD_signExtend, BitVec.getLsbD_signExtend]
      simp [g, hi]
    · rw [h8 i hi (by omega), Bool.and_false, Bool.and_false]
  rw [e]
theorem q_add {x : Int} {V W J Jm U X : Nat → Nat → Int} {R Rm : Nat → Nat → Nat} (h : TP V W) (hl : W 0 4 ≤ 216) (hx : f_s_add x V J R U) (hm : f_m_types x W Jm Rm X) : TP U X ∧ X 0 4 = W 0 4 + 4 := by
  unfold f_s_add at hx
  unfold f_m_types at hm
  obtain ⟨bX, hbX, hx9⟩ := lop2_g hx
  obtain ⟨bM, hbM, hm9⟩ := lop2_g hm
  have key : ∀ (n m k : Nat) (V2 W2 : Nat → Nat → Int), TP V2 W2 → k ≤ 4 → W2 0 4 = W 0 4 + (4 - (k : Int)) → lop2 n bX (8 * (k : Int) - 8) V2 U → lop2 m bM ((k : Int) - 1) W2 X → TP U X ∧ X 0 4 = W 0 4 + 4 := by
    intro n
    induction n with
    | zero => intro m k V2 W2 _ _ _ hx; exact False.elim hx
    | succ n ih =>
      intro m k V2 W2 hT hk hw hx hm
      cases m with
      | zero => exact False.elim hm
      | succ m =>
        rw [lop2_s hbX] at hx
        rw [lop2_s hbM] at hm
        by_cases g : k = 0
        · rw [if_pos (by omega)] at hx hm
          have hx : U = V2 := hx
          have hm : X = W2 := hm
          subst hx hm
          exact ⟨hT, by omega⟩
        · rw [if_neg (by omega)] at hx hm
          obtain ⟨p, ep, -, hx⟩ := rdb_g hx
          obtain ⟨q, eq, -, hm⟩ := rdb_g hm
          obtain ⟨t1, t2, t3⟩ := hT
          have epq : p = q := by omega
          subst epq
          rw [if_neg (by omega)] at hx
          obtain ⟨z, ez, hx⟩ := rdb_g hx
          obtain ⟨z2, ez2, -, hx⟩ := rdb_g hx
          obtain ⟨V3, e3, hx⟩ := rdb_g hx
          obtain ⟨V4, e4, hx⟩ := rdb_g hx
          obtain ⟨y, ey, hm⟩ := rdb_g hm
          obtain ⟨y2, ey2, -, hm⟩ := rdb_g hm
          obtain ⟨W3, f3, hm⟩ := rdb_g hm
          obtain ⟨W4, f4, hm⟩ := rdb_g hm
          obtain ⟨j, rfl⟩ : ∃ j : Nat, k = j + 1 := ⟨k - 1, by omega⟩
          have eyz : y = z := by
            rw [← ey, ← ez]
            congr 1
            omega
          have eb : z2 = iAnd y2 255 := by rw [← ez2, ← ey2, iB_255, eyz]
          have w4 : W4 0 4 = p + 1 := by rw [← f4, up2_s]
          refine ih m j V4 W4 ⟨?_, ?_, ?_⟩ (by omega) (by rw [w4, ← eq, hw]; omega) ?_ ?_
          · rw [w4, ← e4, up2_s]
          · rw [w4]; omega
          · intro i hi
            rw [w4] at hi
            have x4 : V4 59 = up1 (V2 59) p.toNat z2 := by rw [← e4, up2_c _ _ (by decide), ← e3, up2_row]
            have m4 : W4 4 = up1 (W2 4) p.toNat y2 := by rw [← f4, up2_c _ _ (by decide), ← f3, up2_row]
            rw [x4, m4]
            by_cases gi : i = p.toNat
            · rw [gi, up1_at, up1_at]; exact eb
            · rw [up1_of gi, up1_of gi]
              exact t3 i (by omega)
          · rw [show 8 * (j : Int) - 8 = 8 * ((j + 1 : Nat) : Int) - 8 - 8 by omega]
            exact hx
          · rw [show (j : Int) - 1 = ((j + 1 : Nat) : Int) - 1 - 1 by omega]
            exact hm
  exact key _ _ 4 V W h (by omega) (by omega) hx9 hm9
theorem FBm.ks {m : Nat} {W X : Nat → Nat → Int} (h : FBm m W X) (ht : ∀ i : Nat, i < 17 → i = 1 ∨ i = 3 ∨ 11 ≤ i → m.testBit (64 + i) = false) : ∀ i : Nat, i = 1 ∨ i = 3 ∨ (11 ≤ i ∧ i ≤ 16) → X i = W i := fun i hi => h.rw i (by omega) (ht i (by omega) (by omega))
theorem WR.tape {R : Nat → Nat → Nat} {V W U X : Nat → Nat → Int} (h : WR R V W) (hT : TP U X) (hx : ∀ i : Nat, i ≠ 58 → i ≠ 59 → U i = V i) (hm : ∀ i : Nat, i = 1 ∨ i = 3 ∨ (11 ≤ i ∧ i ≤ 16) → X i = W i) (hm0 : X 0 53 = W 0 53) : WR R U X := by
  obtain ⟨⟨a1, a2⟩, a3, a4, ⟨a5, a6⟩, a7⟩ := h
  refine ⟨⟨a1.cg2 (fun i i1 i2 => hx i (by omega) (by omega)) (fun k _ => by rw [hm 1 (Or.inl rfl)]), by rw [hm 1 (Or.inl rfl)]; exact a2⟩, by rw [hx 0 (by decide) (by decide), hm0]; exact a3, ?_, ⟨a5.cg (fun i i1 i2 i3 => hx i (by omega) (by omega)) (fun i i1 i2 => hm i (by omega)), a6⟩, hT⟩
  rw [hx 0 (by decide) (by decide), hm 3 (Or.inr (Or.inl rfl))]
  rcases a4 with a4 | ⟨a4, a8⟩
  · exact Or.inl a4
  · exact Or.inr ⟨a4.cg2 (fun i i1 i2 => hx i (by omega) (by omega)) (fun _ _ => rfl), a8⟩
theorem w_feed {x1 x2 x3 x4 x5 a b : Int} {V V2 J W Jm X : Nat → Nat → Int} {R Rm : Nat → Nat → Nat} (h : WR R V W) (hx : f_s_feed x1 x2 x3 x4 x5 V J R (a, V2)) (hm : f_m_feed x1 x2 x3 x4 x5 W Jm Rm (b, X)) : a = b ∧ WR R V2 X := by
  unfold f_s_feed at hx
  unfold f_m_feed at hm
  have hT := h.2.2.2.2
  obtain ⟨z1, h1, -, hx⟩ := hx
  obtain ⟨y1, f1, -, hm⟩ := rdb_g hm
  have q1 : z1 = if y1 + 20 ≤ 220 then 1 else 0 := by
    unfold f_s_hasRoom at h1
    obtain ⟨z2, e2, h20, h1⟩ := rdb_g h1
    obtain ⟨z3, e3, h1⟩ := rdb_g h1
    rw [wr_id ⟨by omega, by omega⟩] at e3
    have e4 : z2 = y1 := by rw [← e2, ← f1]; exact hT.1
    by_cases g : 220 < z3
    · rw [if_pos g] at h1
      rw [if_neg (by omega)]
      exact h1
    · rw [if_neg g] at h1
      rw [if_pos (by omega)]
      exact h1
  by_cases g : y1 + 20 ≤ 220
  · rw [if_pos g] at q1 hm
    rw [if_pos (by omega)] at hx
    obtain ⟨U1, u1, F1, hx⟩ := hx
    obtain ⟨U2, u2, F2, hx⟩ := hx
    obtain ⟨U3, u3, F3, hx⟩ := hx
    obtain ⟨U4, u4, F4, hx⟩ := hx
    obtain ⟨U5, u5, F5, hx⟩ := hx
    obtain ⟨Y1, y1, G1, hm⟩ := hm
    obtain ⟨Y2, y2, G2, hm⟩ := hm
    obtain ⟨Y3, y3, G3, hm⟩ := hm
    obtain ⟨Y4, y4, G4, hm⟩ := hm
    obtain ⟨Y5, y5, G5, hm⟩ := hm
    obtain ⟨z, ez, -, hx⟩ := rdb_g hx
    obtain ⟨y, ey, -, hm⟩ := rdb_g hm
    simp only [rtn, Prod.mk.injEq] at hx hm
    obtain ⟨rfl, rfl⟩ := hx
    obtain ⟨rfl, rfl⟩ := hm
    obtain ⟨r1, l1⟩ := q_add hT (by omega) u1 y1
    obtain ⟨r2, l2⟩ := q_add r1 (by omega) u2 y2
    obtain ⟨r3, l3⟩ := q_add r2 (by omega) u3 y3
    obtain ⟨r4, l4⟩ := q_add r3 (by omega) u4 y4
    obtain ⟨r5, l5⟩ := q_add r4 (by omega) u5 y5
    refine ⟨by rw [← ez, ← ey]; exact r5.1, h.tape r5 (fun i i1 i2 => funext fun k => ?_) (fun i i1 => ?_) ?_⟩
    · rw [F5 i k (by omega), F4 i k (by omega), F3 i k (by omega), F2 i k (by omega), F1 i k (by omega)]
    · rw [G5.ks (by decide) i i1, G4.ks (by decide) i i1, G3.ks (by decide) i i1, G2.ks (by decide) i i1, G1.ks (by decide) i i1]
    · rw [G5.fl 53 (by decide), G4.fl 53 (by decide), G3.fl 53 (by decide), G2.fl 53 (by decide), G1.fl 53 (by decide)]
  · rw [if_neg g] at q1 hm
    rw [if_neg (by omega)] at hx
    exact h.same hx hm
end
section
-- what is tried leaves the landing as it was (own work)
theorem lop1_k {α ρ : Type} {b : (α → ρ → Prop) → α → ρ → Prop} (I : α → Prop) (Q : ρ → Prop) (hs : ∀ rc : α → ρ → Prop, (∀ x, I x → ∀ r, rc x r → Q r) → ∀ x, I x → ∀ r, b rc x r → Q r) : ∀ (n : Nat) (x : α), I x → ∀ r, lop1 n b x r → Q r := by
  intro n
  induction n with
  | zero => intro x _ r h; exact False.elim h
  | succ n ih => intro x hI r h; exact hs _ ih x hI r h
theorem lop2_k {α β ρ : Type} {b : (α → β → ρ → Prop) → α → β → ρ → Prop} (I : α → β → Prop) (Q : ρ → Prop) (hs : ∀ rc : α → β → ρ → Prop, (∀ x y, I x y → ∀ r, rc x y r → Q r) → ∀ x y, I x y → ∀ r, b rc x y r → Q r) : ∀ (n : Nat) (x : α) (y : β), I x y → ∀ r, lop2 n b x y r → Q r := by
  intro n
  induction n with
  | zero => intro x y _ r h; exact False.elim h
  | succ n ih => intro x y hI r h; exact hs _ ih x y hI r h
theorem lop3_k {α β γ ρ : Type} {b : (α → β → γ → ρ → Prop) → α → β → γ → ρ → Prop} (I : α → β → γ → Prop) (Q : ρ → Prop) (hs : ∀ rc : α → β → γ → ρ → Prop, (∀ x y z, I x y z → ∀ r, rc x y z r → Q r) → ∀ x y z, I x y z → ∀ r, b rc x y z r → Q r) : ∀ (n : Nat) (x : α) (y : β) (z : γ), I x y z → ∀ r, lop3 n b x y z r → Q r := by
  intro n
  induction n with
  | zero => intro x y z _ r h; exact False.elim h
  | succ n ih => intro x y z hI r h; exact hs _ ih x y z hI r h
theorem lop4_k {α β γ δ ρ : Type} {b : (α → β → γ → δ → ρ → Prop) → α → β → γ → δ → ρ → Prop} (I : α → β → γ → δ → Prop) (Q : ρ → Prop) (hs : ∀ rc : α → β → γ → δ → ρ → Prop, (∀ x y z w, I x y z w → ∀ r, rc x y z w r → Q r) → ∀ x y z w, I x y z w → ∀ r, b rc x y z w r → Q r) : ∀ (n : Nat) (x : α) (y : β) (z : γ) (w : δ), I x y z w → ∀ r, lop4 n b x y z w r → Q r := by
  intro n
  induction n with
  | zero => intro x y z w _ r h; exact False.elim h
  | succ n ih => intro x y z w hI r h; exact hs _ ih x y z w hI r h
theorem lop6_k {α β γ δ ε ζ ρ : Type} {b : (α → β → γ → δ → ε → ζ → ρ → Prop) → α → β → γ → δ → ε → ζ → ρ → Prop} (I : α → β → γ → δ → ε → ζ → Prop) (Q : ρ → Prop) (hs : ∀ rc : α → β → γ → δ → ε → ζ → ρ → Prop, (∀ x y z w u v, I x y z w u v → ∀ r, rc x y z w u v r → Q r) → ∀ x y z w u v, I x y z w u v → ∀ r, b rc x y z w u v r → Q r) : ∀ (n : Nat) (x : α) (y : β) (z : γ) (w : δ) (u : ε) (v : ζ), I x y z w u v → ∀ r, lop6 n b x y z w u v r → Q r := by
  intro n
  induction n with
  | zero => intro x y z w u v _ r h; exact False.elim h
  | succ n ih => intro x y z w u v hI r h; exact hs _ ih x y z w u v hI r h
set_option maxRecDepth 100000 in
theorem k_goes {n m a : Int} {W J X J2 : Nat → Nat → Int} {R R2 : Nat → Nat → Nat} (h : f_m_goesThrough n m W J R (a, (X, J2, R2))) : ∀ k : Nat, X 1 k = W 1 k := by
  unfold f_m_goesThrough at h
  obtain ⟨d, ed, h⟩ := rdb_g h
  obtain ⟨J3, -, h⟩ := rdb_g h
  refine lop2_k (fun _ _ => True) (fun r : Int × xS => ∀ k : Nat, r.2.1 1 k = W 1 k) (fun rc hrc z J4 _ r h => ?_) _ _ _ trivial _ h
  by_cases g : 500 ≤ z
  · rw [if_pos g] at h
    obtain ⟨_, -, -, h⟩ := rdb_g h
    obtain ⟨_, -, -, h⟩ := rdb_g h
    obtain ⟨_, -, -, h⟩ := rdb_g h
    obtain ⟨_, -, -, h⟩ := rdb_g h
    obtain ⟨_, -, -, h⟩ := h
    obtain ⟨J5, -, h⟩ := rdb_g h
    refine lop4_k (fun _ V _ _ => ∀ k : Nat, k ≠ 79 → V 1 k = W 1 k) (fun r : Int × xS => ∀ k : Nat, r.2.1 1 k = W 1 k) (fun rc4 hrc4 z V J R hV r h => ?_) _ _ _ _ _ (fun _ _ => rfl) _ h
    by_cases g4 : n ≤ z
    · rw [if_pos g4] at h
      obtain ⟨V2, e2, h⟩ := rdb_g h
      obtain ⟨_, -, -, h⟩ := rdb_g h
      obtain ⟨_, -, -, h⟩ := h
      obtain ⟨_, -, h⟩ := rdb_g h
      obtain ⟨_, -, h⟩ := rdb_g h
      simp only [rtn] at h
      subst h
      intro k
      show V2 1 k = W 1 k
      rw [← e2]
      by_cases gk : k = 79
      · rw [gk, up2_s, ← ed]
      · rw [up2_n _ _ (Or.inr gk)]
        exact hV k gk
    · rw [if_neg g4] at h
      obtain ⟨_, -, h⟩ := rdb_g h
      obtain ⟨_, -, -, h⟩ := h
      obtain ⟨_, -, h⟩ := rdb_g h
      obtain ⟨_, -, h⟩ := rdb_g h
      refine lop2_k (fun _ _ => True) (fun r : Int × xS => ∀ k : Nat, r.2.1 1 k = W 1 k) (fun rc5 hrc5 z5 J5 _ r h => ?_) _ _ _ trivial _ h
      by_cases g5 : 500 ≤ z5
      · rw [if_pos g5] at h
        refine lop4_k (fun _ V _ _ => ∀ k : Nat, k ≠ 79 → V 1 k = W 1 k) (fun r : Int × xS => ∀ k : Nat, r.2.1 1 k = W 1 k) (fun rc6 hrc6 z6 V6 J6 R6 hV6 r h => ?_) _ _ _ _ _ hV _ h
        by_cases g6 : 500 ≤ z6
        · rw [if_pos g6] at h
          refine lop2_k (fun _ _ => True) (fun r : Int × xS => ∀ k : Nat, r.2.1 1 k = W 1 k) (fun rc7 hrc7 z7 J7 _ r h => ?_) _ _ _ trivial _ h
          by_cases g7 : 500 ≤ z7
          · rw [if_pos g7] at h
            obtain ⟨_, -, h⟩ := rdb_g h
            obtain ⟨_, -, h⟩ := rdb_g h
            obtain ⟨V8, e8, h⟩ := rdb_g h
            exact hrc4 _ _ _ _ (fun k hk => by rw [← e8, up2_n _ _ (Or.inr hk)]; exact hV6 k hk) _ h
          · rw [if_neg g7] at h
            exact hrc7 _ _ trivial _ h
        · rw [if_neg g6] at h
          obtain ⟨w, -, h⟩ := rdb_g h
          have h := jnk_d h
          by_cases g7 : ¬ lcI w 0 = 0
          · rw [if_pos g7] at h
            obtain ⟨V7, J7, R7, -, hF, h⟩ := h
            refine lop4_k (fun _ V _ _ => ∀ k : Nat, k ≠ 79 → V 1 k = W 1 k) (fun r : Int × xS => ∀ k : Nat, r.2.1 1 k = W 1 k) (fun rc8 hrc8 z8 V8 J8 R8 hV8 r h => ?_) _ _ _ _ _ (fun k hk => by rw [hF.rw 1 (by decide) (by decide)]; exact hV6 k hk) _ h
            by_cases g8 : 24 < z8
            · rw [if_pos g8] at h
              exact hrc6 _ _ _ _ hV8 _ h
            · rw [if_neg g8] at h
              obtain ⟨w8, -, h⟩ := rdb_g h
              have h := jnk_d h
              by_cases g9 : ¬ lcI w8 0 = 0
              · rw [if_pos g9] at h
                obtain ⟨V9, J9, R9, -, hF9, h⟩ := h
                obtain ⟨V10, J10, R10, -, hF10, h⟩ := h
                exact hrc8 _ _ _ _ (fun k hk => by rw [hF10.rw 1 (by decide) (by decide), hF9.rw 1 (by decide) (by decide)]; exact hV8 k hk) _ h
              · rw [if_neg g9] at h
                exact hrc8 _ _ _ _ hV8 _ h
          · rw [if_neg g7] at h
            exact hrc6 _ _ _ _ hV6 _ h
      · rw [if_neg g5] at h
        exact hrc5 _ _ trivial _ h
  · rw [if_neg g] at h
    exact hrc _ _ trivial _ h
theorem k_lastsWith {l x a : Int} {W J X : Nat → Nat → Int} {R : Nat → Nat → Nat} (h : f_m_lastsWith l x W J R (a, X)) : ∀ k : Nat, k < 81 → X 1 k = W 1 k := by
  unfold f_m_lastsWith at h
  obtain ⟨_, -, -, h⟩ := rdb_g h
  obtain ⟨_, -, -, h⟩ := rdb_g h
  obtain ⟨V3, e3, h⟩ := rdb_g h
  obtain ⟨_, -, -, h⟩ := rdb_g h
  obtain ⟨_, -, -, h⟩ := rdb_g h
  obtain ⟨_, -, h⟩ := h
  obtain ⟨V8, e8, h⟩ := rdb_g h
  refine lop2_k (fun _ V => ∀ k : Nat, k < 81 → V 2 k = W 1 k) (fun r : Int × (Nat → Nat → Int) => ∀ k : Nat, k < 81 → r.2 1 k = W 1 k) (fun rc hrc z V hV r h => ?_) _ _ _ (fun k hk => by rw [← e8, up2_c _ _ (by decide), ← e3, cpN_at hk]) _ h
  by_cases g : 60 ≤ z
  · rw [if_pos g] at h
    obtain ⟨V9, e9, h⟩ := rdb_g h
    simp only [rtn] at h
    subst h
    intro k hk
    show V9 1 k = W 1 k
    rw [← e9, cpN_at hk]
    exact hV k hk
  · rw [if_neg g] at h
    obtain ⟨_, -, -, h⟩ := rdb_g h
    obtain ⟨_, -, -, h⟩ := rdb_g h
    obtain ⟨U, -, hF, h⟩ := h
    have hU : ∀ k : Nat, k < 81 → U 2 k = W 1 k := fun k hk => by rw [hF.rw 2 (by decide) (by decide)]; exact hV k hk
    obtain ⟨y, -, -, h⟩ := h
    by_cases gy : ¬ y = 0
    · rw [if_pos gy] at h
      obtain ⟨_, -, -, h⟩ := rdb_g h
      obtain ⟨_, -, -, h⟩ := rdb_g h
      obtain ⟨_, -, h⟩ := rdb_g h
      obtain ⟨_, -, h⟩ := rdb_g h
      obtain ⟨U2, e2, h⟩ := rdb_g h
      exact hrc _ _ (fun k hk => by rw [← e2, up2_c _ _ (by decide)]; exact hU k hk) _ h
    · rw [if_neg gy] at h
      obtain ⟨V9, e9, h⟩ := rdb_g h
      simp only [rtn] at h
      subst h
      intro k hk
      show V9 1 k = W 1 k
      rw [← e9, cpN_at hk]
      exact hU k hk
theorem k_wetBehind {x y c a : Int} {W J X : Nat → Nat → Int} {R : Nat → Nat → Nat} (h : f_m_wetBehind x y c W J R (a, X)) : ∀ k : Nat, k < 81 → X 1 k = W 1 k := by
  unfold f_m_wetBehind at h
  obtain ⟨V1, e1, h⟩ := rdb_g h
  refine lop2_k (fun _ V => ∀ k : Nat, k < 81 → V 2 k = W 1 k) (fun r : Int × (Nat → Nat → Int) => ∀ k : Nat, k < 81 → r.2 1 k = W 1 k) (fun rc hrc z V hV r h => ?_) _ _ _ (fun k hk => by rw [← e1, cpN_at hk]) _ h
  have h := jnk_d h
  have fin : ∀ (z9 : Int), (rdb (cpN V 2 1 81) fun V361 => rtn (z9, V361)) r → ∀ k : Nat, k < 81 → r.2 1 k = W 1 k := by
    intro z9 h
    obtain ⟨V9, e9, h⟩ := rdb_g h
    simp only [rtn] at h
    subst h
    intro k hk
    show V9 1 k = W 1 k
    rw [← e9, cpN_at hk]
    exact hV k hk
  have out : (calR (f_m_lives x V J R) fun z354 => fct (0 ≤ z354 ∧ z354 ≤ 1) <| jnk (fun (z359 : Int) => rdb (cpN V 2 1 81) fun V361 => rtn (z359, V361)) fun jf360 => (if z354 = 0 then jf360 ((-1)) else rdb (V 1 ((x + 12).toNat)) fun z364 => fct (0 ≤ z364 ∧ z364 ≤ 8) <| rdb (V 1 ((x + 16).toNat)) fun z365 => fct (0 ≤ z365 ∧ z365 ≤ 8) <| rdb (V 1 ((x + 4).toNat)) fun z366 => fct (0 ≤ z366 ∧ z366 ≤ 24) <| jf360 z366)) r → ∀ k : Nat, k < 81 → r.2 1 k = W 1 k := by
    intro h
    obtain ⟨y2, -, -, h⟩ := h
    have h := jnk_d h
    by_cases gy : y2 = 0
    · rw [if_pos gy] at h
      exact fin _ h
    · rw [if_neg gy] at h
      obtain ⟨_, -, -, h⟩ := rdb_g h
      obtain ⟨_, -, -, h⟩ := rdb_g h
      obtain ⟨_, -, -, h⟩ := rdb_g h
      exact fin _ h
  by_cases g : 7 ≤ z
  · rw [if_pos g] at h
    exact out h
  · rw [if_neg g] at h
    obtain ⟨y3, -, -, h⟩ := h
    by_cases gy : y3 = 0
    · rw [if_pos gy] at h
      exact out h
    · rw [if_neg gy] at h
      obtain ⟨_, -, -, h⟩ := rdb_g h
      obtain ⟨_, -, -, h⟩ := rdb_g h
      obtain ⟨w, -, -, h⟩ := h
      by_cases gw : y ≤ w
      · rw [if_pos gw] at h
        obtain ⟨U, -, hF, h⟩ := h
        obtain ⟨_, -, h⟩ := rdb_g h
        obtain ⟨_, -, h⟩ := rdb_g h
        obtain ⟨U2, e2, h⟩ := rdb_g h
        exact hrc _ _ (fun k hk => by rw [← e2, up2_c _ _ (by decide), hF.rw 2 (by decide) (by decide)]; exact hV k hk) _ h
      · rw [if_neg gw] at h
        obtain ⟨_, -, -, h⟩ := rdb_g h
        obtain ⟨U0, -, hF0, h⟩ := h
        obtain ⟨U, -, hF, h⟩ := h
        obtain ⟨_, -, h⟩ := rdb_g h
        obtain ⟨_, -, h⟩ := rdb_g h
        obtain ⟨U2, e2, h⟩ := rdb_g h
        exact hrc _ _ (fun k hk => by rw [← e2, up2_c _ _ (by decide), hF.rw 2 (by decide) (by decide), hF0.rw 2 (by decide) (by decide)]; exact hV k hk) _ h
theorem k_goesByRota {x : Int} {W J X : Nat → Nat → Int} {R : Nat → Nat → Nat} (h : f_m_goesByRota x W J R X) : ∀ k : Nat, k < 81 → X 1 k = W 1 k := by
  unfold f_m_goesByRota at h
  obtain ⟨V1, e1, h⟩ := rdb_g h
  obtain ⟨V2, e2, h⟩ := rdb_g h
  refine lop2_k (fun _ V => ∀ k : Nat, k < 81 → V 2 k = W 1 k) (fun r : Nat → Nat → Int => ∀ k : Nat, k < 81 → r 1 k = W 1 k) (fun rc hrc z V hV r h => ?_) _ _ _ (fun k hk => by rw [← e2, up2_c _ _ (by decide), ← e1, cpN_at hk]) _ h
  obtain ⟨y0, -, -, h⟩ := rdb_g h
  have h := jnk_d h
  have out : (rdb (V 1 ((x + 4).toNat)) fun z744 => fct (0 ≤ z744 ∧ z744 ≤ 24) <| rdb (up2 V 0 50 z744) fun V745 => rdb (cpN V745 2 1 81) fun V746 => rtn V746) r → ∀ k : Nat, k < 81 → r 1 k = W 1 k := by
    intro h
    obtain ⟨_, -, -, h⟩ := rdb_g h
    obtain ⟨V8, e8, h⟩ := rdb_g h
    obtain ⟨V9, e9, h⟩ := rdb_g h
    simp only [rtn] at h
    subst h
    intro k hk
    rw [← e9, cpN_at hk, ← e8, up2_c _ _ (by decide)]
    exact hV k hk
  have nxt : ∀ V764 : Nat → Nat → Int, (∀ k : Nat, k < 81 → V764 2 k = W 1 k) → (rdb (V764 1 79) fun z765 => rdb (wr (z765 + 1)) fun z766 => rdb (up2 V764 1 79 z766) fun V767 => rc (z + 1) V767) r → ∀ k : Nat, k < 81 → r 1 k = W 1 k := by
    intro V764 hV7 h
    obtain ⟨_, -, h⟩ := rdb_g h
    obtain ⟨_, -, h⟩ := rdb_g h
    obtain ⟨U2, e2, h⟩ := rdb_g h
    exact hrc _ _ (fun k hk => by rw [← e2, up2_c _ _ (by decide)]; exact hV7 k hk) _ h
  have rest : ∀ (V755 : Nat → Nat → Int) (s : Int), (∀ k : Nat, k < 81 → V755 2 k = W 1 k) → (calUM 7253591811175922467340288 V755 (f_m_dries x s V755 J R) fun V758 => calR (f_m_lives x V758 J R) fun z759 => fct (0 ≤ z759 ∧ z759 ≤ 1) <| jnk (fun (V764 : Nat → Nat → Int) => rdb (V764 1 79) fun z765 => rdb (wr (z765 + 1)) fun z766 => rdb (up2 V764 1 79 z766) fun V767 => rc (z + 1) V767) fun jf764 => (if ¬ z759 = 0 then rdb (V758 1 ((x + 12).toNat)) fun z770 => fct (0 ≤ z770 ∧ z770 ≤ 8) <| rdb (V758 1 ((x + 16).toNat)) fun z771 => fct (0 ≤ z771 ∧ z771 ≤ 8) <| jf764 V758 else rdb (up2 V758 0 49 z) fun V772 => jf764 V772)) r → ∀ k : Nat, k < 81 → r 1 k = W 1 k := by
    intro V755 s hV5 h
    obtain ⟨U, -, hF, h⟩ := h
    have hU : ∀ k : Nat, k < 81 → U 2 k = W 1 k := fun k hk => by rw [hF.rw 2 (by decide) (by decide)]; exact hV5 k hk
    obtain ⟨y, -, -, h⟩ := h
    have h := jnk_d h
    by_cases gy : ¬ y = 0
    · rw [if_pos gy] at h
      obtain ⟨_, -, -, h⟩ := rdb_g h
      obtain ⟨_, -, -, h⟩ := rdb_g h
      exact nxt _ hU h
    · rw [if_neg gy] at h
      obtain ⟨U3, e3, h⟩ := rdb_g h
      exact nxt _ (fun k hk => by rw [← e3, up2_c _ _ (by decide)]; exact hU k hk) h
  by_cases g : y0 ≤ z
  · rw [if_pos g] at h
    exact out h
  · rw [if_neg g] at h
    obtain ⟨y1, -, -, h⟩ := h
    by_cases gy : y1 = 0
    · rw [if_pos gy] at h
      exact out h
    · rw [if_neg gy] at h
      obtain ⟨_, -, -, h⟩ := rdb_g h
      obtain ⟨_, -, -, h⟩ := rdb_g h
      obtain ⟨w, -, -, h⟩ := rdb_g h
      by_cases gw : w = (-1)
      · rw [if_pos gw] at h
        obtain ⟨s, U, -, hF, h⟩ := h
        have hU : ∀ k : Nat, k < 81 → U 2 k = W 1 k := fun k hk => by rw [hF.rw 2 (by decide) (by decide)]; exact hV k hk
        have h := jnk_if h
        exact rest _ _ hU h
      · rw [if_neg gw] at h
        obtain ⟨U0, -, hF0, h⟩ := h
        obtain ⟨s, U, -, hF, h⟩ := h
        have hU : ∀ k : Nat, k < 81 → U 2 k = W 1 k := fun k hk => by rw [hF.rw 2 (by decide) (by decide), hF0.rw 2 (by decide) (by decide)]; exact hV k hk
        have h := jnk_if h
        exact rest _ _ hU h
end
section
-- what asks leaves the world as it was (own work)
theorem WR.rk {R R2 : Nat → Nat → Nat} {V W : Nat → Nat → Int} (h : WR R V W) (hr : RK R2 R) : WR R2 V W := by
  have h60 := hr 60 (by decide)
  have h66 := hr 66 (by decide)
  have h72 := hr 72 (by decide)
  unfold WR RTx TXD at h ⊢
  rw [h60, h66, h72]
  exact h
theorem TP.nil {U X : Nat → Nat → Int} (h1 : U 58 1 = 0) (h2 : X 0 4 = 0) : TP U X := by
  unfold TP
  rw [h1, h2]
  exact ⟨rfl, by decide, fun k hk => by omega⟩
theorem WR.keepT {R : Nat → Nat → Nat} {V W U X : Nat → Nat → Int} (h : WR R V W) (hT : TP U X) (hx : ∀ i : Nat, (1 ≤ i ∧ i ≤ 38) ∨ (61 ≤ i ∧ i ≤ 65) ∨ (73 ≤ i ∧ i ≤ 97) → U i = V i) (h0 : U 0 3 = V 0 3) (m1 : ∀ k : Nat, k < 81 → X 1 k = W 1 k) (m3 : X 3 = W 3) (mt : ∀ i : Nat, 11 ≤ i → i ≤ 16 → X i = W i) (m053 : X 0 53 = W 0 53) : WR R U X := by
  obtain ⟨⟨a1, a2⟩, a3, a4, ⟨a5, a6⟩, a7⟩ := h
  refine ⟨⟨a1.cg2 (fun i i1 i2 => hx i (by omega)) m1, by rw [m1 79 (by decide)]; exact a2⟩, by rw [h0, m053]; exact a3, ?_, ⟨a5.cg (fun i i1 i2 i3 => hx i (by omega)) mt, a6⟩, hT⟩
  rw [h0, m3]
  rcases a4 with a4 | ⟨a4, a8⟩
  · exact Or.inl a4
  · exact Or.inr ⟨a4.cg2 (fun i i1 i2 => hx i (by omega)) (fun _ _ => rfl), a8⟩
/-- what neither side's tape has lost -/
theorem WR.tp {R : Nat → Nat → Nat} {V W U X : Nat → Nat → Int} (h : WR R V W) (h1 : U 58 1 = V 58 1) (h2 : U 59 = V 59) (h3 : X 0 4 = W 0 4) (h4 : X 4 = W 4) : TP U X := h.2.2.2.2.cg h1 h2 h3 h4
theorem k_laysSpread {x a : Int} {W J X : Nat → Nat → Int} {R : Nat → Nat → Nat} (h : f_m_laysSpread x W J R (a, X)) : ∀ k : Nat, k < 81 → X 1 k = W 1 k := by
  unfold f_m_laysSpread at h
  refine lop2_k (fun _ V => ∀ k : Nat, k < 81 → V 1 k = W 1 k) (fun r : Int × (Nat → Nat → Int) => ∀ k : Nat, k < 81 → r.2 1 k = W 1 k) (fun rc hrc z V hV r h => ?_) _ _ _ (fun _ _ => rfl) _ h
  by_cases g : 4 ≤ z
  · rw [if_pos g] at h
    refine lop3_k (fun _ _ V => ∀ k : Nat, k < 81 → V 1 k = W 1 k) (fun r : Int × (Nat → Nat → Int) => ∀ k : Nat, k < 81 → r.2 1 k = W 1 k) (fun rc1 hrc1 a1 b1 V1 hV1 r h => ?_) _ _ _ _ hV _ h
    by_cases g1 : x < a1
    · rw [if_pos g1] at h
      simp only [rtn] at h
      subst h
      exact hV1
    · rw [if_neg g1] at h
      refine lop3_k (fun _ _ V => ∀ k : Nat, k < 81 → V 1 k = W 1 k) (fun r : Int × (Nat → Nat → Int) => ∀ k : Nat, k < 81 → r.2 1 k = W 1 k) (fun rc2 hrc2 a2 b2 V2 hV2 r h => ?_) _ _ _ _ hV1 _ h
      by_cases g2 : x < a1 + a2
      · rw [if_pos g2] at h
        exact hrc1 _ _ _ hV2 _ h
      · rw [if_neg g2] at h
        refine lop3_k (fun _ _ V => ∀ k : Nat, k < 81 → V 1 k = W 1 k) (fun r : Int × (Nat → Nat → Int) => ∀ k : Nat, k < 81 → r.2 1 k = W 1 k) (fun rc3 hrc3 a3 b3 V3 hV3 r h => ?_) _ _ _ _ hV2 _ h
        by_cases g3 : x < a1 + a2 + a3
        · rw [if_pos g3] at h
          exact hrc2 _ _ _ hV3 _ h
        · rw [if_neg g3] at h
          obtain ⟨V4, e4, h⟩ := rdb_g h
          obtain ⟨V5, e5, h⟩ := rdb_g h
          obtain ⟨V6, e6, h⟩ := rdb_g h
          obtain ⟨V7, e7, h⟩ := rdb_g h
          have hV7 : ∀ k : Nat, k < 81 → V7 1 k = W 1 k := fun k hk => by rw [← e7, up2_c _ _ (by decide), ← e6, up2_c _ _ (by decide), ← e5, up2_c _ _ (by decide), ← e4, up2_c _ _ (by decide)]; exact hV3 k hk
          obtain ⟨y, -, -, h⟩ := h
          have h := jnk_d h
          by_cases gy : y = 0
          · rw [if_pos gy] at h
            exact hrc3 _ _ _ hV7 _ h
          · rw [if_neg gy] at h
            obtain ⟨y2, -, h⟩ := h
            by_cases gy2 : b3 < y2
            · rw [if_pos gy2] at h
              obtain ⟨y3, -, h⟩ := h
              refine lop2_k (fun _ V => ∀ k : Nat, k < 81 → V 1 k = W 1 k) (fun r : Int × (Nat → Nat → Int) => ∀ k : Nat, k < 81 → r.2 1 k = W 1 k) (fun rc4 hrc4 a4 V8 hV8 r h => ?_) _ _ _ hV7 _ h
              by_cases g4 : 4 ≤ a4
              · rw [if_pos g4] at h
                exact hrc3 _ _ _ hV8 _ h
              · rw [if_neg g4] at h
                obtain ⟨_, -, -, h⟩ := rdb_g h
                obtain ⟨V9, e9, h⟩ := rdb_g h
                exact hrc4 _ _ (fun k hk => by rw [← e9, up2_c _ _ (by decide)]; exact hV8 k hk) _ h
            · rw [if_neg gy2] at h
              exact hrc3 _ _ _ hV7 _ h
  · rw [if_neg g] at h
    refine lop2_k (fun _ V => ∀ k : Nat, k < 81 → V 1 k = W 1 k) (fun r : Int × (Nat → Nat → Int) => ∀ k : Nat, k < 81 → r.2 1 k = W 1 k) (fun rc1 hrc1 z1 V1 hV1 r h => ?_) _ _ _ hV _ h
    by_cases g1 : 24 < z1
    · rw [if_pos g1] at h
      exact hrc _ _ hV1 _ h
    · rw [if_neg g1] at h
      obtain ⟨y, -, -, h⟩ := h
      have h := jnk_d h
      by_cases gy : y = 0
      · rw [if_pos gy] at h
        obtain ⟨V9, e9, h⟩ := rdb_g h
        exact hrc1 _ _ (fun k hk => by rw [← e9, up2_c _ _ (by decide)]; exact hV1 k hk) _ h
      · rw [if_neg gy] at h
        obtain ⟨_, -, -, h⟩ := rdb_g h
        obtain ⟨_, -, -, h⟩ := rdb_g h
        obtain ⟨w, U, hU, -, h⟩ := h
        obtain ⟨V9, e9, h⟩ := rdb_g h
        exact hrc1 _ _ (fun k hk => by rw [← e9, up2_c _ _ (by decide), k_lastsWith hU k hk]; exact hV1 k hk) _ h
theorem k_spread {x y a : Int} {W J X : Nat → Nat → Int} {R : Nat → Nat → Nat} (h : f_m_spread x y W J R (a, X)) : ∀ k : Nat, k < 81 → X 1 k = W 1 k := by
  have same : ∀ c : Int, rtn (c, W) (a, X) → ∀ k : Nat, k < 81 → X 1 k = W 1 k := fun c h k _ => by
    simp only [rtn, Prod.mk.injEq] at h
    rw [h.2]
  unfold f_m_spread at h
  obtain ⟨z1, -, -, h⟩ := h
  by_cases g1 : z1 = 0
  · rw [if_pos g1] at h; exact same _ h
  rw [if_neg g1] at h
  by_cases g2 : y = 10
  · rw [if_pos g2] at h
    obtain ⟨_, -, h⟩ := rdb_g h
    obtain ⟨_, -, h⟩ := rdb_g h
    obtain ⟨_, -, h⟩ := rdb_g h
    obtain ⟨z8, -, h⟩ := rdb_g h
    by_cases g3 : ¬ z8 = 0
    · rw [if_pos g3] at h
      obtain ⟨w, U, hU, -, h⟩ := h
      simp only [rtn, Prod.mk.injEq] at h
      obtain ⟨rfl, rfl⟩ := h
      exact k_laysSpread hU
    · rw [if_neg g3] at h; exact same _ h
  · rw [if_neg g2] at h
    obtain ⟨z9, -, -, h⟩ := h
    by_cases g9 : ¬ z9 = 0
    · rw [if_pos g9] at h
      obtain ⟨_, -, h⟩ := rdb_g h
      obtain ⟨_, -, h⟩ := rdb_g h
      obtain ⟨_, -, h⟩ := rdb_g h
      obtain ⟨z8, -, h⟩ := rdb_g h
      by_cases g3 : ¬ z8 = 0
      · rw [if_pos g3] at h
        obtain ⟨w, U, hU, -, h⟩ := h
        obtain ⟨_, -, h⟩ := rdb_g h
        simp only [rtn, Prod.mk.injEq] at h
        obtain ⟨rfl, rfl⟩ := h
        exact k_laysSpread hU
      · rw [if_neg g3] at h; exact same _ h
    · rw [if_neg g9] at h; exact same _ h
theorem k_lasts {x y a : Int} {W J X : Nat → Nat → Int} {R : Nat → Nat → Nat} (h : f_m_lasts x y W J R (a, X)) : ∀ k : Nat, k < 81 → X 1 k = W 1 k := by
  have same : ∀ c : Int, rtn (c, W) (a, X) → ∀ k : Nat, k < 81 → X 1 k = W 1 k := fun c h k _ => by
    simp only [rtn, Prod.mk.injEq] at h
    rw [h.2]
  unfold f_m_lasts at h
  obtain ⟨z1, -, -, h⟩ := h
  by_cases g1 : z1 = 0
  · rw [if_pos g1] at h; exact same _ h
  rw [if_neg g1] at h
  obtain ⟨_, -, -, h⟩ := rdb_g h
  obtain ⟨_, -, -, h⟩ := rdb_g h
  obtain ⟨z6, -, -, h⟩ := h
  by_cases g6 : ¬ z6 = 0
  · rw [if_pos g6] at h
    obtain ⟨w, U, hU, -, h⟩ := h
    simp only [rtn, Prod.mk.injEq] at h
    obtain ⟨rfl, rfl⟩ := h
    exact k_lastsWith hU
  · rw [if_neg g6] at h; exact same _ h
theorem k_needs {x y a : Int} {W J X : Nat → Nat → Int} {R : Nat → Nat → Nat} (h : f_m_needs x y W J R (a, X)) : ∀ k : Nat, k < 81 → X 1 k = W 1 k := by
  have same : ∀ c : Int, rtn (c, W) (a, X) → ∀ k : Nat, k < 81 → X 1 k = W 1 k := fun c h k _ => by
    simp only [rtn, Prod.mk.injEq] at h
    rw [h.2]
  unfold f_m_needs at h
  obtain ⟨z1, -, -, h⟩ := h
  by_cases g1 : z1 = 0
  · rw [if_pos g1] at h; exact same _ h
  rw [if_neg g1] at h
  obtain ⟨_, -, -, h⟩ := rdb_g h
  obtain ⟨_, -, -, h⟩ := rdb_g h
  obtain ⟨z6, -, -, h⟩ := h
  by_cases g6 : ¬ z6 = 0
  · rw [if_pos g6] at h
    refine lop2_k (fun _ V => ∀ k : Nat, k < 81 → V 1 k = W 1 k) (fun r : Int × (Nat → Nat → Int) => ∀ k : Nat, k < 81 → r.2 1 k = W 1 k) (fun rc hrc z V hV r h => ?_) _ _ _ (fun _ _ => rfl) _ h
    by_cases g : 24 < z
    · rw [if_pos g] at h
      simp only [rtn] at h
      subst h
      exact hV
    · rw [if_neg g] at h
      obtain ⟨_, -, -, h⟩ := rdb_g h
      obtain ⟨_, -, -, h⟩ := rdb_g h
      obtain ⟨w, U, hU, -, h⟩ := h
      have hU2 : ∀ k : Nat, k < 81 → U 1 k = W 1 k := fun k hk => by rw [k_lastsWith hU k hk]; exact hV k hk
      by_cases gw : w < y
      · rw [if_pos gw] at h
        exact hrc _ _ hU2 _ h
      · rw [if_neg gw] at h
        simp only [rtn] at h
        subst h
        exact hU2
  · rw [if_neg g6] at h; exact same _ h
theorem k_week {x y c a : Int} {W J X : Nat → Nat → Int} {R : Nat → Nat → Nat} (h : f_m_week x y c W J R (a, X)) : ∀ k : Nat, k < 81 → X 1 k = W 1 k := by
  have same : ∀ (c : Int) (V : Nat → Nat → Int), (∀ k : Nat, k < 81 → V 1 k = W 1 k) → rtn (c, V) (a, X) → ∀ k : Nat, k < 81 → X 1 k = W 1 k := fun c V hV h => by
    simp only [rtn, Prod.mk.injEq] at h
    rw [h.2]
    exact hV
  have ret : ∀ (c : Int) (V : Nat → Nat → Int) (r : Int × (Nat → Nat → Int)), (∀ k : Nat, k < 81 → V 1 k = W 1 k) → rtn (c, V) r → ∀ k : Nat, k < 81 → r.2 1 k = W 1 k := fun c V r hV h => by
    simp only [rtn] at h
    subst h
    exact hV
  unfold f_m_week at h
  obtain ⟨z1, -, -, h⟩ := h
  by_cases g1 : z1 = 0
  · rw [if_pos g1] at h; exact same _ _ (fun _ _ => rfl) h
  rw [if_neg g1] at h
  obtain ⟨_, -, -, h⟩ := rdb_g h
  obtain ⟨_, -, -, h⟩ := rdb_g h
  obtain ⟨z6, -, -, h⟩ := h
  by_cases g6 : z6 = 0
  · rw [if_pos g6] at h; exact same _ _ (fun _ _ => rfl) h
  rw [if_neg g6] at h
  obtain ⟨z9, -, -, h⟩ := h
  -- the search
  have srch : ∀ (V1 V2 : Nat → Nat → Int) (w : Int) (hV1 : ∀ k : Nat, k < 81 → V1 1 k = W 1 k), ∀ {p q : Int}, f_m_wetBehind x y p V1 J R (q, V2) → ∀ k : Nat, k < 81 → V2 1 k = W 1 k := fun V1 V2 w hV1 p q h k hk => by
    rw [k_wetBehind h k hk]
    exact hV1 k hk
  by_cases g9 : ¬ z9 = 0
  · rw [if_pos g9] at h
    obtain ⟨z12, V12, -, hF, h⟩ := h
    have hV12 : ∀ k : Nat, k < 81 → V12 1 k = W 1 k := fun k _ => by rw [hF.rw 1 (by decide) (by decide)]
    obtain ⟨-, h⟩ := h
    by_cases g12 : ¬ z12 = 0
    · rw [if_pos g12] at h
      refine lop2_k (fun _ _ => True) (fun r : Int × (Nat → Nat → Int) => ∀ k : Nat, k < 81 → r.2 1 k = W 1 k) (fun rc hrc za zb _ r h => ?_) _ _ _ trivial _ h
      by_cases ga : 7 ≤ za
      · rw [if_pos ga] at h
        refine lop3_k (fun _ _ V => ∀ k : Nat, k < 81 → V 1 k = W 1 k) (fun r : Int × (Nat → Nat → Int) => ∀ k : Nat, k < 81 → r.2 1 k = W 1 k) (fun rc1 hrc1 a1 b1 V1 hV1 r h => ?_) _ _ _ _ hV12 _ h
        by_cases gb : zb ≤ a1
        · rw [if_pos gb] at h
          by_cases gc : ¬ b1 = (-1)
          · rw [if_pos gc] at h
            by_cases gd : ¬ c = 10
            · rw [if_pos gd] at h
              obtain ⟨w, U, hU, -, h⟩ := h
              exact ret _ _ _ (srch _ _ 0 hV1 hU) h
            · rw [if_neg gd] at h
              obtain ⟨_, -, h⟩ := h
              exact ret _ _ _ hV1 h
          · rw [if_neg gc] at h
            exact ret _ _ _ hV1 h
        · rw [if_neg gb] at h
          have h := jnk_d h
          by_cases gc : b1 = (-1)
          · rw [if_pos gc] at h
            obtain ⟨w, U, hU, -, h⟩ := h
            by_cases ge : w = (-1)
            · rw [if_pos ge] at h
              exact hrc1 _ _ _ (srch _ _ 0 hV1 hU) _ h
            · rw [if_neg ge] at h
              exact hrc1 _ _ _ (srch _ _ 0 hV1 hU) _ h
          · rw [if_neg gc] at h
            obtain ⟨p1, -, h⟩ := h
            obtain ⟨p2, -, h⟩ := h
            by_cases gd : p1 < p2
            · rw [if_pos gd] at h
              obtain ⟨w, U, hU, -, h⟩ := h
              by_cases ge : w = (-1)
              · rw [if_pos ge] at h
                exact hrc1 _ _ _ (srch _ _ 0 hV1 hU) _ h
              · rw [if_neg ge] at h
                exact hrc1 _ _ _ (srch _ _ 0 hV1 hU) _ h
            · rw [if_neg gd] at h
              exact hrc1 _ _ _ hV1 _ h
      · rw [if_neg ga] at h
        obtain ⟨_, -, h⟩ := rdb_g h
        exact hrc _ _ trivial _ h
    · rw [if_neg g12] at h; exact same _ _ hV12 h
  · rw [if_neg g9] at h
    obtain ⟨z0, -, -, h⟩ := h
    by_cases g0 : z0 = 0
    · rw [if_pos g0] at h; exact same _ _ (fun _ _ => rfl) h
    rw [if_neg g0] at h
    obtain ⟨z12, V12, -, hF, h⟩ := h
    have hV12 : ∀ k : Nat, k < 81 → V12 1 k = W 1 k := fun k _ => by rw [hF.rw 1 (by decide) (by decide)]
    obtain ⟨-, h⟩ := h
    by_cases g12 : ¬ z12 = 0
    · rw [if_pos g12] at h
      refine lop2_k (fun _ _ => True) (fun r : Int × (Nat → Nat → Int) => ∀ k : Nat, k < 81 → r.2 1 k = W 1 k) (fun rc hrc za zb _ r h => ?_) _ _ _ trivial _ h
      by_cases ga : 7 ≤ za
      · rw [if_pos ga] at h
        refine lop3_k (fun _ _ V => ∀ k : Nat, k < 81 → V 1 k = W 1 k) (fun r : Int × (Nat → Nat → Int) => ∀ k : Nat, k < 81 → r.2 1 k = W 1 k) (fun rc1 hrc1 a1 b1 V1 hV1 r h => ?_) _ _ _ _ hV12 _ h
        by_cases gb : zb ≤ a1
        · rw [if_pos gb] at h
          by_cases gc : ¬ b1 = (-1)
          · rw [if_pos gc] at h
            obtain ⟨w, -, -, h⟩ := h
            by_cases gd : ¬ w = y
            · rw [if_pos gd] at h
              obtain ⟨_, -, -, h⟩ := rdb_g h
              exact ret _ _ _ hV1 h
            · rw [if_neg gd] at h
              exact ret _ _ _ hV1 h
          · rw [if_neg gc] at h
            exact ret _ _ _ hV1 h
        · rw [if_neg gb] at h
          have h := jnk_d h
          by_cases gc : b1 = (-1)
          · rw [if_pos gc] at h
            obtain ⟨w, U, hU, -, h⟩ := h
            by_cases ge : w = (-1)
            · rw [if_pos ge] at h
              exact hrc1 _ _ _ (srch _ _ 0 hV1 hU) _ h
            · rw [if_neg ge] at h
              exact hrc1 _ _ _ (srch _ _ 0 hV1 hU) _ h
          · rw [if_neg gc] at h
            obtain ⟨p1, -, h⟩ := h
            obtain ⟨p2, -, h⟩ := h
            by_cases gd : p1 < p2
            · rw [if_pos gd] at h
              obtain ⟨w, U, hU, -, h⟩ := h
              by_cases ge : w = (-1)
              · rw [if_pos ge] at h
                exact hrc1 _ _ _ (srch _ _ 0 hV1 hU) _ h
              · rw [if_neg ge] at h
                exact hrc1 _ _ _ (srch _ _ 0 hV1 hU) _ h
            · rw [if_neg gd] at h
              exact hrc1 _ _ _ hV1 _ h
      · rw [if_neg ga] at h
        obtain ⟨_, -, h⟩ := rdb_g h
        exact hrc _ _ trivial _ h
    · rw [if_neg g12] at h; exact same _ _ hV12 h
theorem k_tried {x y a : Int} {W J X : Nat → Nat → Int} {R : Nat → Nat → Nat} (h : f_m_tried x y W J R (a, X)) : ∀ k : Nat, k < 81 → X 1 k = W 1 k := by
  have same : ∀ (c : Int), rtn (c, W) (a, X) → ∀ k : Nat, k < 81 → X 1 k = W 1 k := fun c h k _ => by
    simp only [rtn, Prod.mk.injEq] at h
    rw [h.2]
  have back : ∀ (c : Int) (V7 V8 V9 : Nat → Nat → Int), cpN W 1 2 81 = V7 → FBm 16924998368092956804513792 V7 V8 → cpN V8 2 1 81 = V9 → rtn (c, V9) (a, X) → ∀ k : Nat, k < 81 → X 1 k = W 1 k := fun c V7 V8 V9 e7 hF e9 h k hk => by
    simp only [rtn, Prod.mk.injEq] at h
    rw [h.2, ← e9, cpN_at hk, hF.rw 2 (by decide) (by decide), ← e7, cpN_at hk]
  unfold f_m_tried at h
  obtain ⟨z1, -, -, h⟩ := h
  by_cases g1 : ¬ z1 = 0
  · rw [if_pos g1] at h
    obtain ⟨z4, -, -, h⟩ := h
    by_cases g4 : z4 = 0
    · rw [if_pos g4] at h; exact same _ h
    rw [if_neg g4] at h
    obtain ⟨V7, e7, h⟩ := rdb_g h
    obtain ⟨V8, -, hF, h⟩ := h
    have h := jnk_d h
    by_cases c1 : ¬ y = 0
    · rw [if_pos c1] at h
      by_cases c2 : ¬ y = 1
      · rw [if_pos c2] at h
        by_cases c3 : ¬ y = 2
        · rw [if_pos c3] at h
          obtain ⟨_, -, h⟩ := rdb_g h
          obtain ⟨V9, e9, h⟩ := rdb_g h
          exact back _ _ _ _ e7 hF e9 h
        · rw [if_neg c3] at h
          obtain ⟨_, -, h⟩ := rdb_g h
          obtain ⟨_, -, h⟩ := h
          obtain ⟨V9, e9, h⟩ := rdb_g h
          exact back _ _ _ _ e7 hF e9 h
      · rw [if_neg c2] at h
        obtain ⟨_, -, h⟩ := rdb_g h
        obtain ⟨V9, e9, h⟩ := rdb_g h
        exact back _ _ _ _ e7 hF e9 h
    · rw [if_neg c1] at h
      obtain ⟨_, -, h⟩ := rdb_g h
      obtain ⟨V9, e9, h⟩ := rdb_g h
      exact back _ _ _ _ e7 hF e9 h
  rw [if_neg g1] at h
  obtain ⟨z27, -, -, h⟩ := h
  by_cases g27 : z27 = 0
  · rw [if_pos g27] at h
    obtain ⟨z29, -, -, h⟩ := h
    by_cases g29 : z29 = 0
    · rw [if_pos g29] at h
      obtain ⟨z31, -, -, h⟩ := h
      by_cases g31 : z31 = 0
      · rw [if_pos g31] at h; exact same _ h
      · rw [if_neg g31] at h; exact same _ h
    rw [if_neg g29] at h
    obtain ⟨z35, -, -, h⟩ := h
    by_cases g35 : z35 = 0
    · rw [if_pos g35] at h
      obtain ⟨z31, -, -, h⟩ := h
      by_cases g31 : z31 = 0
      · rw [if_pos g31] at h; exact same _ h
      · rw [if_neg g31] at h; exact same _ h
    rw [if_neg g35] at h
    obtain ⟨z41, -, -, h⟩ := h
    by_cases g41 : z41 = 0
    · rw [if_pos g41] at h; exact same _ h
    rw [if_neg g41] at h
    obtain ⟨V7, e7, h⟩ := rdb_g h
    obtain ⟨V8, -, hF, h⟩ := h
    obtain ⟨_, -, h⟩ := rdb_g h
    obtain ⟨V9, e9, h⟩ := rdb_g h
    exact back _ _ _ _ e7 hF e9 h
  rw [if_neg g27] at h
  obtain ⟨z49, -, -, h⟩ := h
  by_cases g49 : ¬ z49 = 0
  · rw [if_pos g49] at h
    obtain ⟨z52, -, -, h⟩ := h
    by_cases g52 : z52 = 0
    · rw [if_pos g52] at h; exact same _ h
    rw [if_neg g52] at h
    obtain ⟨V7, e7, h⟩ := rdb_g h
    obtain ⟨V8, -, hF, h⟩ := h
    obtain ⟨_, -, -, h⟩ := rdb_g h
    obtain ⟨V9, e9, h⟩ := rdb_g h
    exact back _ _ _ _ e7 hF e9 h
  rw [if_neg g49] at h
  obtain ⟨z59, -, -, h⟩ := h
  by_cases g59 : z59 = 0
  · rw [if_pos g59] at h
    obtain ⟨z31, -, -, h⟩ := h
    by_cases g31 : z31 = 0
    · rw [if_pos g31] at h; exact same _ h
    · rw [if_neg g31] at h; exact same _ h
  rw [if_neg g59] at h
  obtain ⟨z35, -, -, h⟩ := h
  by_cases g35 : z35 = 0
  · rw [if_pos g35] at h
    obtain ⟨z31, -, -, h⟩ := h
    by_cases g31 : z31 = 0
    · rw [if_pos g31] at h; exact same _ h
    · rw [if_neg g31] at h; exact same _ h
  rw [if_neg g35] at h
  obtain ⟨z41, -, -, h⟩ := h
  by_cases g41 : z41 = 0
  · rw [if_pos g41] at h; exact same _ h
  rw [if_neg g41] at h
  obtain ⟨V7, e7, h⟩ := rdb_g h
  obtain ⟨V8, -, hF, h⟩ := h
  obtain ⟨_, -, -, h⟩ := rdb_g h
  obtain ⟨V9, e9, h⟩ := rdb_g h
  exact back _ _ _ _ e7 hF e9 h
end
section
-- chances leave the landing as it was; the tape is emptied on both sides or on none (own work)
theorem k_fin {V W X J J2 : Nat → Nat → Int} {R R2 : Nat → Nat → Nat} {a c : Int} (hV : ∀ k : Nat, V 1 k = W 1 k) (h : rtn (c, (V, J, R)) (a, (X, J2, R2))) : ∀ k : Nat, X 1 k = W 1 k := by
  simp only [rtn, Prod.mk.injEq] at h
  rw [h.2.1]
  exact hV
theorem k_finr {V W J : Nat → Nat → Int} {R : Nat → Nat → Nat} {c : Int} {r : Int × xS} (hV : ∀ k : Nat, V 1 k = W 1 k) (h : rtn (c, (V, J, R)) r) : ∀ k : Nat, r.2.1 1 k = W 1 k := by
  simp only [rtn] at h
  subst h
  exact hV
set_option maxRecDepth 100000 in
theorem k_exactly {x y z u a : Int} {W J X J2 : Nat → Nat → Int} {R R2 : Nat → Nat → Nat} (h : f_m_exactly x y z u W J R (a, (X, J2, R2))) : ∀ k : Nat, X 1 k = W 1 k := by
  unfold f_m_exactly at h
  obtain ⟨z1, V1, -, hF, -, h⟩ := h
  have h1 : ∀ k : Nat, V1 1 k = W 1 k := fun k => by rw [hF.rw 1 (by decide) (by decide)]
  by_cases g1 : z1 = 0
  · rw [if_pos g1] at h; exact k_fin h1 h
  rw [if_neg g1] at h
  obtain ⟨z4, -, -, h⟩ := h
  by_cases g4 : ¬ z4 = 0
  · rw [if_pos g4] at h
    obtain ⟨z7, V7, J7, R7, h7, -, h⟩ := h
    have h7 : ∀ k : Nat, V7 1 k = W 1 k := fun k => (k_goes h7 k).trans (h1 k)
    by_cases g7 : ¬ u = (-1)
    · rw [if_pos g7] at h
      refine lop2_k (fun _ _ => True) (fun r : Int × xS => ∀ k : Nat, r.2.1 1 k = W 1 k) (fun rc hrc za zb _ r h => ?_) _ _ _ trivial _ h
      by_cases ga : 20 ≤ za
      · rw [if_pos ga] at h
        exact k_finr h7 h
      · rw [if_neg ga] at h
        obtain ⟨_, -, h⟩ := rdb_g h
        obtain ⟨_, -, h⟩ := rdb_g h
        exact hrc _ _ trivial _ h
    · rw [if_neg g7] at h
      obtain ⟨_, -, h⟩ := rdb_g h
      exact k_fin h7 h
  · rw [if_neg g4] at h; exact k_fin h1 h
set_option maxRecDepth 100000 in
theorem k_chance {x y z u a : Int} {W J X J2 : Nat → Nat → Int} {R R2 : Nat → Nat → Nat} (h : f_m_chance x y z u W J R (a, (X, J2, R2))) : ∀ k : Nat, X 1 k = W 1 k := by
  unfold f_m_chance at h
  obtain ⟨z1, V1, -, hF, -, h⟩ := h
  have h1 : ∀ k : Nat, V1 1 k = W 1 k := fun k => by rw [hF.rw 1 (by decide) (by decide)]
  by_cases g1 : z1 = 0
  · rw [if_pos g1] at h; exact k_fin h1 h
  rw [if_neg g1] at h
  obtain ⟨z4, -, -, h⟩ := h
  by_cases g4 : ¬ z4 = 0
  · rw [if_pos g4] at h
    refine lop6_k (fun _ _ _ V _ _ => ∀ k : Nat, V 1 k = W 1 k) (fun r : Int × xS => ∀ k : Nat, r.2.1 1 k = W 1 k) (fun rc hrc za zb zc V J R hV r h => ?_) _ _ _ _ _ _ _ h1 _ h
    by_cases ga : 10 < za
    · rw [if_pos ga] at h
      by_cases gu : ¬ u = 0
      · rw [if_pos gu] at h; exact k_finr hV h
      · rw [if_neg gu] at h; exact k_finr hV h
    · rw [if_neg ga] at h
      refine lop2_k (fun _ V => ∀ k : Nat, V 1 k = W 1 k) (fun r : Int × xS => ∀ k : Nat, r.2.1 1 k = W 1 k) (fun rc1 hrc1 z2 V2 hV2 r h => ?_) _ _ _ hV _ h
      by_cases g2 : z ≤ z2
      · rw [if_pos g2] at h
        obtain ⟨w, V7, J7, R7, h7, -, h⟩ := h
        have h7 : ∀ k : Nat, V7 1 k = W 1 k := fun k => (k_goes h7 k).trans (hV2 k)
        have h := jnk_d h
        by_cases gw : 0 < lcI w zb
        · rw [if_pos gw] at h; exact hrc _ _ _ _ _ _ h7 _ h
        · rw [if_neg gw] at h; exact hrc _ _ _ _ _ _ h7 _ h
      · rw [if_neg g2] at h
        obtain ⟨V9, e9, h⟩ := rdb_g h
        exact hrc1 _ _ (fun k => by rw [← e9, up2_c _ _ (by decide)]; exact hV2 k) _ h
  · rw [if_neg g4] at h; exact k_fin h1 h
set_option maxRecDepth 100000 in
theorem k_toAsk {x y z u a : Int} {W J X J2 : Nat → Nat → Int} {R R2 : Nat → Nat → Nat} (h : f_m_toAsk x y z u W J R (a, (X, J2, R2))) : ∀ k : Nat, X 1 k = W 1 k := by
  unfold f_m_toAsk at h
  obtain ⟨z1, V1, -, hF, -, h⟩ := h
  have h1 : ∀ k : Nat, V1 1 k = W 1 k := fun k => by rw [hF.rw 1 (by decide) (by decide)]
  by_cases g1 : z1 = 0
  · rw [if_pos g1] at h; exact k_fin h1 h
  rw [if_neg g1] at h
  obtain ⟨z4, -, -, h⟩ := h
  by_cases g4 : ¬ z4 = 0
  · rw [if_pos g4] at h
    obtain ⟨w0, V0, J0, R0, h0, -, h⟩ := h
    have h0 : ∀ k : Nat, V0 1 k = W 1 k := fun k => (k_goes h0 k).trans (h1 k)
    refine lop6_k (fun _ _ _ V _ _ => ∀ k : Nat, V 1 k = W 1 k) (fun r : Int × xS => ∀ k : Nat, r.2.1 1 k = W 1 k) (fun rc hrc za zb zc V J R hV r h => ?_) _ _ _ _ _ _ _ h0 _ h
    by_cases ga : z ≤ za
    · rw [if_pos ga] at h
      by_cases gu : ¬ u = 0
      · rw [if_pos gu] at h; exact k_finr hV h
      · rw [if_neg gu] at h; exact k_finr hV h
    · rw [if_neg ga] at h
      refine lop2_k (fun _ V => ∀ k : Nat, V 1 k = W 1 k) (fun r : Int × xS => ∀ k : Nat, r.2.1 1 k = W 1 k) (fun rc1 hrc1 z2 V2 hV2 r h => ?_) _ _ _ hV _ h
      by_cases g2 : z ≤ z2
      · rw [if_pos g2] at h
        obtain ⟨w, V7, J7, R7, h7, -, h⟩ := h
        have h7 : ∀ k : Nat, V7 1 k = W 1 k := fun k => (k_goes h7 k).trans (hV2 k)
        have h := jnk_d h
        by_cases gw : 0 < lcI w zb
        · rw [if_pos gw] at h
          obtain ⟨_, -, -, h⟩ := rdb_g h
          exact hrc _ _ _ _ _ _ h7 _ h
        · rw [if_neg gw] at h; exact hrc _ _ _ _ _ _ h7 _ h
      · rw [if_neg g2] at h
        have h := jnk_d h
        by_cases g3 : ¬ z2 = za
        · rw [if_pos g3] at h
          obtain ⟨_, -, -, h⟩ := rdb_g h
          obtain ⟨_, -, h⟩ := rdb_g h
          obtain ⟨_, -, h⟩ := rdb_g h
          obtain ⟨_, -, h⟩ := h
          obtain ⟨V9, e9, h⟩ := rdb_g h
          exact hrc1 _ _ (fun k => by rw [← e9, up2_c _ _ (by decide)]; exact hV2 k) _ h
        · rw [if_neg g3] at h
          obtain ⟨V9, e9, h⟩ := rdb_g h
          exact hrc1 _ _ (fun k => by rw [← e9, up2_c _ _ (by decide)]; exact hV2 k) _ h
  · rw [if_neg g4] at h; exact k_fin h1 h
set_option maxRecDepth 100000 in
theorem k_few {x y z u a : Int} {W J X J2 : Nat → Nat → Int} {R R2 : Nat → Nat → Nat} (h : f_m_few x y z u W J R (a, (X, J2, R2))) : ∀ k : Nat, X 1 k = W 1 k := by
  unfold f_m_few at h
  obtain ⟨z1, V1, -, hF, -, h⟩ := h
  have h1 : ∀ k : Nat, V1 1 k = W 1 k := fun k => by rw [hF.rw 1 (by decide) (by decide)]
  by_cases g1 : z1 = 0
  · rw [if_pos g1] at h; exact k_fin h1 h
  rw [if_neg g1] at h
  obtain ⟨z4, -, -, h⟩ := h
  by_cases g4 : ¬ z4 = 0
  · rw [if_pos g4] at h
    refine lop4_k (fun _ V _ _ => ∀ k : Nat, V 1 k = W 1 k) (fun r : Int × xS => ∀ k : Nat, r.2.1 1 k = W 1 k) (fun rc hrc za V J R hV r h => ?_) _ _ _ _ _ h1 _ h
    by_cases ga : z < za
    · rw [if_pos ga] at h
      exact k_finr hV h
    · rw [if_neg ga] at h
      obtain ⟨_, -, -, h⟩ := rdb_g h
      obtain ⟨_, -, -, h⟩ := h
      obtain ⟨w, V7, J7, R7, h7, -, h⟩ := h
      have h7 : ∀ k : Nat, V7 1 k = W 1 k := fun k => (k_goes h7 k).trans (hV k)
      obtain ⟨v, -, h⟩ := rdb_g h
      by_cases gw : lcI w v < 0
      · rw [if_pos gw] at h; exact hrc _ _ _ _ h7 _ h
      · rw [if_neg gw] at h; exact k_finr h7 h
  · rw [if_neg g4] at h; exact k_fin h1 h
set_option maxRecDepth 100000 in
theorem k_pot {x y z u a : Int} {W J X J2 : Nat → Nat → Int} {R R2 : Nat → Nat → Nat} (h : f_m_pot x y z u W J R (a, (X, J2, R2))) : ∀ k : Nat, X 1 k = W 1 k := by
  unfold f_m_pot at h
  obtain ⟨z1, V1, -, hF, -, h⟩ := h
  have h1 : ∀ k : Nat, V1 1 k = W 1 k := fun k => by rw [hF.rw 1 (by decide) (by decide)]
  by_cases g1 : z1 = 0
  · rw [if_pos g1] at h; exact k_fin h1 h
  rw [if_neg g1] at h
  obtain ⟨z4, -, -, h⟩ := h
  by_cases g4 : ¬ z4 = 0
  · rw [if_pos g4] at h
    obtain ⟨w, V7, J7, R7, h7, -, h⟩ := h
    have h7 : ∀ k : Nat, V7 1 k = W 1 k := fun k => (k_goes h7 k).trans (h1 k)
    obtain ⟨z8, e8, -, h⟩ := rdb_g h
    obtain ⟨z9, e9, -, h⟩ := rdb_g h
    obtain ⟨V10, f10, h⟩ := rdb_g h
    obtain ⟨z11, -, h⟩ := h
    obtain ⟨V13, f13, h⟩ := rdb_g h
    obtain ⟨V14, f14, h⟩ := rdb_g h
    obtain ⟨w2, V15, J15, R15, h15, -, h⟩ := h
    obtain ⟨V16, f16, h⟩ := rdb_g h
    obtain ⟨V17, f17, h⟩ := rdb_g h
    obtain ⟨_, -, h⟩ := rdb_g h
    refine k_fin (fun k => ?_) h
    have k15 := k_goes h15
    rw [← f17]
    by_cases ga : k = (x + 4).toNat
    · rw [ga, up2_s, ← e9]; exact h7 _
    · rw [up2_n _ _ (Or.inr ga), ← f16]
      by_cases gb : k = x.toNat
      · rw [gb, up2_s, ← e8]; exact h7 _
      · rw [up2_n _ _ (Or.inr gb), k15 k, ← f14, up2_c _ _ (by decide), ← f13, up2_n _ _ (Or.inr ga), ← f10, up2_n _ _ (Or.inr gb)]
        exact h7 k
  · rw [if_neg g4] at h; exact k_fin h1 h
set_option maxRecDepth 100000 in
theorem k_ruleFor {x y z u v a : Int} {W J X J2 : Nat → Nat → Int} {R R2 : Nat → Nat → Nat} (h : f_m_ruleFor x y z u v W J R (a, (X, J2, R2))) : ∀ k : Nat, X 1 k = W 1 k := by
  unfold f_m_ruleFor at h
  obtain ⟨z1, V1, -, hF, -, h⟩ := h
  have h1 : ∀ k : Nat, V1 1 k = W 1 k := fun k => by rw [hF.rw 1 (by decide) (by decide)]
  by_cases g1 : z1 = 0
  · rw [if_pos g1] at h; exact k_fin h1 h
  rw [if_neg g1] at h
  obtain ⟨z4, -, -, h⟩ := h
  by_cases g4 : z4 = 0
  · rw [if_pos g4] at h; exact k_fin h1 h
  rw [if_neg g4] at h
  obtain ⟨z7, -, -, h⟩ := h
  by_cases g7 : ¬ z7 = 0
  · rw [if_pos g7] at h
    obtain ⟨V10, e10, h⟩ := rdb_g h
    refine lop6_k (fun _ _ _ V _ _ => ∀ k : Nat, V 1 k = W 1 k) (fun r : Int × xS => ∀ k : Nat, r.2.1 1 k = W 1 k) (fun rc hrc za zb zc V J R hV r h => ?_) _ _ _ _ _ _ _ (fun k => by rw [← e10, up2_c _ _ (by decide)]; exact h1 k) _ h
    by_cases ga : 24 < za
    · rw [if_pos ga] at h
      obtain ⟨V11, e11, h⟩ := rdb_g h
      have hV11 : ∀ k : Nat, V11 1 k = W 1 k := fun k => by rw [← e11, up2_c _ _ (by decide)]; exact hV k
      by_cases gu : ¬ v = 0
      · rw [if_pos gu] at h; exact k_finr hV11 h
      · rw [if_neg gu] at h; exact k_finr hV11 h
    · rw [if_neg ga] at h
      obtain ⟨V11, e11, h⟩ := rdb_g h
      have hV11 : ∀ k : Nat, V11 1 k = W 1 k := fun k => by rw [← e11, up2_c _ _ (by decide)]; exact hV k
      obtain ⟨w, V7, J7, R7, h7, -, h⟩ := h
      have h7 : ∀ k : Nat, V7 1 k = W 1 k := fun k => (k_goes h7 k).trans (hV11 k)
      have h := jnk_d h
      by_cases gw : 0 < lcI w zb
      · rw [if_pos gw] at h; exact hrc _ _ _ _ _ _ h7 _ h
      · rw [if_neg gw] at h; exact hrc _ _ _ _ _ _ h7 _ h
  · rw [if_neg g7] at h; exact k_fin h1 h
set_option maxRecDepth 100000 in
theorem k_movesOut {x y z u a : Int} {W J X J2 : Nat → Nat → Int} {R R2 : Nat → Nat → Nat} (h : f_m_movesOut x y z u W J R (a, (X, J2, R2))) : ∀ k : Nat, X 1 k = W 1 k := by
  unfold f_m_movesOut at h
  obtain ⟨z1, V1, -, hF, -, h⟩ := h
  have h1 : ∀ k : Nat, V1 1 k = W 1 k := fun k => by rw [hF.rw 1 (by decide) (by decide)]
  by_cases g1 : z1 = 0
  · rw [if_pos g1] at h; exact k_fin h1 h
  rw [if_neg g1] at h
  obtain ⟨z4, -, -, h⟩ := h
  by_cases g4 : ¬ z4 = 0
  · rw [if_pos g4] at h
    refine lop6_k (fun _ _ _ V _ _ => ∀ k : Nat, V 1 k = W 1 k) (fun r : Int × xS => ∀ k : Nat, r.2.1 1 k = W 1 k) (fun rc hrc za zb zc V J R hV r h => ?_) _ _ _ _ _ _ _ h1 _ h
    by_cases ga : z ≤ za
    · rw [if_pos ga] at h
      by_cases gu : ¬ u = 0
      · rw [if_pos gu] at h; exact k_finr hV h
      · rw [if_neg gu] at h; exact k_finr hV h
    · rw [if_neg ga] at h
      refine lop2_k (fun _ V => ∀ k : Nat, V 1 k = W 1 k) (fun r : Int × xS => ∀ k : Nat, r.2.1 1 k = W 1 k) (fun rc1 hrc1 z2 V2 hV2 r h => ?_) _ _ _ hV _ h
      by_cases g2 : z ≤ z2
      · rw [if_pos g2] at h
        obtain ⟨w, V7, J7, R7, h7, -, h⟩ := h
        have h7 : ∀ k : Nat, V7 1 k = W 1 k := fun k => (k_goes h7 k).trans (hV2 k)
        have h := jnk_d h
        by_cases gw : zc = (-1)
        · rw [if_pos gw] at h
          obtain ⟨_, -, -, h⟩ := rdb_g h
          exact hrc _ _ _ _ _ _ h7 _ h
        · rw [if_neg gw] at h
          by_cases gx : lcI w zb < 0
          · rw [if_pos gx] at h
            obtain ⟨_, -, -, h⟩ := rdb_g h
            exact hrc _ _ _ _ _ _ h7 _ h
          · rw [if_neg gx] at h; exact hrc _ _ _ _ _ _ h7 _ h
      · rw [if_neg g2] at h
        have h := jnk_d h
        by_cases g3 : ¬ z2 = za
        · rw [if_pos g3] at h
          obtain ⟨_, -, -, h⟩ := rdb_g h
          obtain ⟨_, -, h⟩ := rdb_g h
          obtain ⟨V9, e9, h⟩ := rdb_g h
          exact hrc1 _ _ (fun k => by rw [← e9, up2_c _ _ (by decide)]; exact hV2 k) _ h
        · rw [if_neg g3] at h
          obtain ⟨V9, e9, h⟩ := rdb_g h
          exact hrc1 _ _ (fun k => by rw [← e9, up2_c _ _ (by decide)]; exact hV2 k) _ h
  · rw [if_neg g4] at h; exact k_fin h1 h
-- the tape
theorem jbc : ∀ s : Nat, s < 256 → (let x : Int := (s : Int); let z2 := iAnd (iUshr x 1) 1431655765; let z3 := wr (x - z2); let z4 := iAnd z3 858993459; let z6 := iAnd (iUshr z3 2) 858993459; let z9 := iAnd (wr (z4 + z6 + iUshr (z4 + z6) 4)) 252645135; let z11 := wr (z9 + iUshr z9 8); iAnd (wr (z11 + iUshr z11 16)) 63) = cnt (s : Int) := by decide +kernel
theorem q_bitCount {x r : Int} (h : f_s_bitCount x r) (hx : 0 ≤ x ∧ x < 256) : r = cnt x := by
  have e := jbc x.toNat (by omega)
  rw [show ((x.toNat : Nat) : Int) = x by omega] at e
  simp only [f_s_bitCount, rdb, fct, rtn] at h
  obtain ⟨-, -, -, -, -, h⟩ := h
  rw [h]
  exact e
theorem t_comes {x y z a b : Int} {V V2 J J2 W Jm X Jm2 : Nat → Nat → Int} {R R2 Rm Rm2 : Nat → Nat → Nat} (h : TP V W) (hx : f_s_comes x y z V J R (a, (V2, J2, R2))) (hm : f_m_comes x y z W Jm Rm (b, (X, Jm2, Rm2))) : TP V2 X := by
  have same : ∀ {c d : Int} {Jx Jy : Nat → Nat → Int} {Rx Ry : Nat → Nat → Nat}, rtn (c, (V, Jx, Rx)) (a, (V2, J2, R2)) → rtn (d, (W, Jy, Ry)) (b, (X, Jm2, Rm2)) → TP V2 X := fun h1 h2 => by
    simp only [rtn, Prod.mk.injEq] at h1 h2
    rw [h1.2.1, h2.2.1]
    exact h
  unfold f_s_comes at hx
  unfold f_m_comes at hm
  obtain ⟨z1, h1, -, hx⟩ := hx
  obtain ⟨y1, k1, -, hm⟩ := hm
  have h1 := q_sWithin h1
  have e1 : z1 = y1 := h1.eq (q_mIn k1) Iff.rfl
  subst e1
  by_cases g1 : z1 = 0
  · rw [if_pos g1] at hx hm; exact same hx hm
  rw [if_neg g1] at hx hm
  obtain ⟨z4, h4, -, hx⟩ := hx
  obtain ⟨y4, k4, -, hm⟩ := hm
  have h4 := q_sWithin h4
  have e4 : z4 = y4 := h4.eq (q_mIn k4) Iff.rfl
  subst e4
  by_cases g4 : z4 = 0
  · rw [if_pos g4] at hx hm; exact same hx hm
  rw [if_neg g4] at hx hm
  obtain ⟨z7, h7, -, hx⟩ := hx
  obtain ⟨y7, k7, -, hm⟩ := hm
  have h7 := q_sWithin h7
  have e7 : z7 = y7 := h7.eq (q_mIn k7) Iff.rfl
  subst e7
  by_cases g7 : z7 = 0
  · rw [if_neg (fun hh => hh g7)] at hx
    rw [if_pos g7] at hm
    exact same hx hm
  rw [if_pos g7] at hx
  rw [if_neg g7] at hm
  obtain ⟨z10, e10, -, hx⟩ := rdb_g hx
  obtain ⟨y10, f10, -, hm⟩ := rdb_g hm
  have e : z10 = y10 := by rw [← e10, ← f10]; exact h.1
  subst e
  by_cases g10 : x ≤ z10
  · rw [if_pos g10] at hx hm
    obtain ⟨z12, V12, J12, R12, -, -, -, hx⟩ := hx
    obtain ⟨V13, e13, hx⟩ := rdb_g hx
    obtain ⟨W12, f12, hm⟩ := rdb_g hm
    have c1 : V2 58 1 = 0 := by
      by_cases g : z12 = 0
      · rw [if_pos g] at hx
        simp only [rtn, Prod.mk.injEq] at hx
        rw [hx.2.1, ← e13, up2_s]
      · rw [if_neg g] at hx
        obtain ⟨_, -, hx⟩ := rdb_g hx
        obtain ⟨_, -, hx⟩ := hx
        obtain ⟨_, -, hx⟩ := hx
        simp only [rtn, Prod.mk.injEq] at hx
        rw [hx.2.1, ← e13, up2_s]
    have c2 : X 0 4 = 0 := by
      obtain ⟨z13, -, -, hm⟩ := hm
      by_cases g : ¬ z13 = 0
      · rw [if_pos g] at hm
        obtain ⟨W15, J15, R15, -, hF, hm⟩ := hm
        obtain ⟨_, -, hm⟩ := rdb_g hm
        obtain ⟨_, -, -, hm⟩ := hm
        obtain ⟨_, -, hm⟩ := hm
        simp only [rtn, Prod.mk.injEq] at hm
        rw [hm.2.1, hF.fl 4 (by decide), ← f12, up2_s]
      · rw [if_neg g] at hm
        simp only [rtn, Prod.mk.injEq] at hm
        rw [hm.2.1, ← f12, up2_s]
    exact TP.nil c1 c2
  · rw [if_neg g10] at hx hm; exact same hx hm
theorem t_can {x y z u a b : Int} {V V2 J J2 W Jm X Jm2 : Nat → Nat → Int} {R R2 Rm Rm2 : Nat → Nat → Nat} (h : TP V W) (hx : f_s_can x y z u V J R (a, (V2, J2, R2))) (hm : f_m_can x y z u W Jm Rm (b, (X, Jm2, Rm2))) : TP V2 X := by
  have same : ∀ {c d : Int} {Jx Jy : Nat → Nat → Int} {Rx Ry : Nat → Nat → Nat}, rtn (c, (V, Jx, Rx)) (a, (V2, J2, R2)) → rtn (d, (W, Jy, Ry)) (b, (X, Jm2, Rm2)) → TP V2 X := fun h1 h2 => by
    simp only [rtn, Prod.mk.injEq] at h1 h2
    rw [h1.2.1, h2.2.1]
    exact h
  unfold f_s_can at hx
  unfold f_m_can at hm
  obtain ⟨z1, h1, -, hx⟩ := hx
  obtain ⟨y1, k1, -, hm⟩ := hm
  have h1 := q_sWithin h1
  have e1 : z1 = y1 := h1.eq (q_mIn k1) Iff.rfl
  subst e1
  by_cases g1 : z1 = 0
  · rw [if_pos g1] at hx hm; exact same hx hm
  rw [if_neg g1] at hx hm
  obtain ⟨z4, h4, -, hx⟩ := hx
  obtain ⟨y4, k4, -, hm⟩ := hm
  have h4 := q_sWithin h4
  have e4 : z4 = y4 := h4.eq (q_mIn k4) Iff.rfl
  subst e4
  by_cases g4 : z4 = 0
  · rw [if_neg (fun hh => hh g4)] at hx
    rw [if_pos g4] at hm
    exact same hx hm
  rw [if_pos g4] at hx
  rw [if_neg g4] at hm
  obtain ⟨z7, h7, -, hx⟩ := hx
  obtain ⟨y7, k7, -, hm⟩ := hm
  have h7 := q_sWithin h7
  have e7 : z7 = y7 := h7.eq (q_mIn k7) Iff.rfl
  subst e7
  by_cases g7 : z7 = 0
  · rw [if_pos g7] at hx hm; exact same hx hm
  rw [if_neg g7] at hx hm
  obtain ⟨z9, h9, -, hx⟩ := hx
  obtain ⟨y9, k9, -, hm⟩ := hm
  have h9 := q_sWithin h9
  have e9 : z9 = y9 := h9.eq (q_mIn k9) Iff.rfl
  subst e9
  by_cases g9 : z9 = 0
  · rw [if_pos g9] at hx hm; exact same hx hm
  rw [if_neg g9] at hx hm
  obtain ⟨z10, e10, -, hx⟩ := rdb_g hx
  obtain ⟨y10, f10, -, hm⟩ := rdb_g hm
  have e : z10 = y10 := by rw [← e10, ← f10]; exact h.1
  subst e
  by_cases g10 : x ≤ z10
  · rw [if_pos g10] at hx hm
    obtain ⟨z12, V12, J12, R12, -, -, -, hx⟩ := hx
    obtain ⟨V13, e13, hx⟩ := rdb_g hx
    obtain ⟨W12, f12, hm⟩ := rdb_g hm
    have c1 : V2 58 1 = 0 := by
      by_cases g : ¬ z12 = 0
      · rw [if_pos g] at hx
        refine lop2_k (fun _ _ => True) (fun r : Int × xS => r.2.1 58 1 = 0) (fun rc hrc za zb _ r h => ?_) _ _ _ trivial _ hx
        by_cases ga : x < za
        · rw [if_pos ga] at h
          obtain ⟨_, -, h⟩ := h
          obtain ⟨_, -, h⟩ := h
          simp only [rtn] at h
          rw [h]
          show V13 58 1 = 0
          rw [← e13, up2_s]
        · rw [if_neg ga] at h
          obtain ⟨_, -, -, h⟩ := rdb_g h
          obtain ⟨_, -, -, h⟩ := rdb_g h
          obtain ⟨_, -, -, h⟩ := rdb_g h
          obtain ⟨_, -, -, h⟩ := rdb_g h
          obtain ⟨_, -, -, h⟩ := rdb_g h
          obtain ⟨_, -, h⟩ := rdb_g h
          obtain ⟨_, -, h⟩ := rdb_g h
          obtain ⟨_, -, h⟩ := rdb_g h
          exact hrc _ _ trivial _ h
      · rw [if_neg g] at hx
        simp only [rtn, Prod.mk.injEq] at hx
        rw [hx.2.1, ← e13, up2_s]
    have c2 : X 0 4 = 0 := by
      obtain ⟨z13, -, -, hm⟩ := hm
      by_cases g : ¬ z13 = 0
      · rw [if_pos g] at hm
        obtain ⟨W15, J15, R15, -, hF, hm⟩ := hm
        refine lop2_k (fun _ _ => True) (fun r : Int × xS => r.2.1 0 4 = 0) (fun rc hrc za zb _ r h => ?_) _ _ _ trivial _ hm
        by_cases ga : x < za
        · rw [if_pos ga] at h
          obtain ⟨_, -, -, h⟩ := h
          obtain ⟨_, -, h⟩ := h
          simp only [rtn] at h
          rw [h]
          show W15 0 4 = 0
          rw [hF.fl 4 (by decide), ← f12, up2_s]
        · rw [if_neg ga] at h
          obtain ⟨_, -, h⟩ := rdb_g h
          obtain ⟨_, -, -, h⟩ := rdb_g h
          obtain ⟨_, -, h⟩ := h
          obtain ⟨_, -, h⟩ := h
          obtain ⟨_, -, h⟩ := rdb_g h
          obtain ⟨_, -, h⟩ := rdb_g h
          exact hrc _ _ trivial _ h
      · rw [if_neg g] at hm
        simp only [rtn, Prod.mk.injEq] at hm
        rw [hm.2.1, ← f12, up2_s]
    exact TP.nil c1 c2
  · rw [if_neg g10] at hx hm; exact same hx hm
end
section
-- the tape is emptied on both sides or on none: check, whoDid, rota (own work)
theorem t_check {x y a b : Int} {V V2 J W Jm X : Nat → Nat → Int} {R Rm : Nat → Nat → Nat} (h : WR R V W) (hx : f_s_check x y V J R (a, V2)) (hm : f_m_check x y W Jm Rm (b, X)) : TP V2 X := by
  have hT := h.2.2.2.2
  have same : ∀ {c d : Int}, rtn (c, V) (a, V2) → rtn (d, W) (b, X) → TP V2 X := fun h1 h2 => by
    simp only [rtn, Prod.mk.injEq] at h1 h2
    rw [h1.2, h2.2]
    exact hT
  unfold f_s_check at hx
  unfold f_m_check at hm
  obtain ⟨z1, h1, -, hx⟩ := hx
  obtain ⟨y1, k1, -, hm⟩ := hm
  obtain ⟨e1, q1⟩ := h.1.1.plant h1 k1
  subst e1
  by_cases g1 : z1 = 0
  · rw [if_pos g1] at hx hm; exact same hx hm
  rw [if_neg g1] at hx hm
  obtain ⟨z4, h4, -, hx⟩ := hx
  obtain ⟨y4, k4, -, hm⟩ := hm
  have h4 := q_sWithin h4
  have e4 : z4 = y4 := h4.eq (q_mIn k4) Iff.rfl
  subst e4
  by_cases g4 : z4 = 0
  · rw [if_pos g4] at hx hm; exact same hx hm
  rw [if_neg g4] at hx hm
  obtain ⟨z7, e7, r7, hx⟩ := rdb_g hx
  obtain ⟨y7, f7, -, hm⟩ := rdb_g hm
  have e : z7 = y7 := by rw [← e7, ← f7]; exact hT.1
  subst e
  obtain ⟨y8, f8, -, hm⟩ := rdb_g hm
  have e8 : y8 = z7 / 4 := by rw [← f8, iDiv_e ⟨by omega, by omega⟩ (by decide), Int.tdiv_eq_ediv_of_nonneg r7.1]
  by_cases g10 : 4 * y ≤ z7
  · rw [if_pos g10] at hx
    rw [if_pos (by omega)] at hm
    have c1 : V2 58 1 = 0 := by
      refine lop2_k (fun _ _ => True) (fun r : Int × (Nat → Nat → Int) => r.2 58 1 = 0) (fun rc hrc za zb _ r h => ?_) _ _ _ trivial _ hx
      have fin : ∀ c : Int, (rdb (up2 V 58 1 0) fun V91 => rtn (c, V91)) r → r.2 58 1 = 0 := fun c h => by
        obtain ⟨V9, e9, h⟩ := rdb_g h
        simp only [rtn] at h
        rw [h]
        show V9 58 1 = 0
        rw [← e9, up2_s]
      by_cases ga : y ≤ za
      · rw [if_pos ga] at h; exact fin _ h
      · rw [if_neg ga] at h
        by_cases gb : ¬ zb = (-1)
        · rw [if_pos gb] at h; exact fin _ h
        · rw [if_neg gb] at h
          obtain ⟨w, -, h⟩ := h
          obtain ⟨_, -, h⟩ := rdb_g h
          obtain ⟨w2, -, h⟩ := rdb_g h
          have h := jnk_d h
          by_cases gc : w = w2
          · rw [if_pos gc] at h; exact hrc _ _ trivial _ h
          · rw [if_neg gc] at h; exact hrc _ _ trivial _ h
    have c2 : X 0 4 = 0 := by
      obtain ⟨W9, f9, hm⟩ := rdb_g hm
      refine lop1_k (fun _ => True) (fun r : Int × (Nat → Nat → Int) => r.2 0 4 = 0) (fun rc hrc za _ r h => ?_) _ _ trivial _ hm
      have fin : ∀ c : Int, rtn (c, W9) r → r.2 0 4 = 0 := fun c h => by
        simp only [rtn] at h
        rw [h]
        show W9 0 4 = 0
        rw [← f9, up2_s]
      by_cases ga : y ≤ za
      · rw [if_pos ga] at h; exact fin _ h
      · rw [if_neg ga] at h
        obtain ⟨w, -, h⟩ := h
        obtain ⟨w2, -, h⟩ := rdb_g h
        by_cases gc : w = w2
        · rw [if_pos gc] at h; exact hrc _ trivial _ h
        · rw [if_neg gc] at h; exact fin _ h
    exact TP.nil c1 c2
  · rw [if_neg g10] at hx
    rw [if_neg (by omega)] at hm
    exact same hx hm
theorem t_whoDid {x y z u v a b : Int} {V V2 J W Jm X : Nat → Nat → Int} {R Rm : Nat → Nat → Nat} (h : TP V W) (hx : f_s_whoDid x y z u v V J R (a, V2)) (hm : f_m_whoDid x y z u v W Jm Rm (b, X)) : TP V2 X := by
  have same : ∀ {c d : Int}, rtn (c, V) (a, V2) → rtn (d, W) (b, X) → TP V2 X := fun h1 h2 => by
    simp only [rtn, Prod.mk.injEq] at h1 h2
    rw [h1.2, h2.2]
    exact h
  unfold f_s_whoDid at hx
  unfold f_m_whoDid at hm
  obtain ⟨z1, h1, -, hx⟩ := hx
  obtain ⟨y1, k1, -, hm⟩ := hm
  have h1 := q_sWithin h1
  have e1 : z1 = y1 := h1.eq (q_mIn k1) Iff.rfl
  subst e1
  by_cases g1 : z1 = 0
  · rw [if_pos g1] at hx hm; exact same hx hm
  rw [if_neg g1] at hx hm
  obtain ⟨z4, h4, -, hx⟩ := hx
  obtain ⟨y4, k4, -, hm⟩ := hm
  have h4 := q_sWithin h4
  have e4 : z4 = y4 := h4.eq (q_mIn k4) Iff.rfl
  subst e4
  by_cases g4 : z4 = 0
  · rw [if_pos g4] at hx hm; exact same hx hm
  rw [if_neg g4] at hx hm
  have q4 := h4.on g4
  obtain ⟨zb, hb, -, hx⟩ := hx
  obtain ⟨yb, kb, hm⟩ := hm
  have eb : zb = yb := by rw [q_bitCount hb ⟨by omega, by omega⟩, q_bits kb]
  subst eb
  by_cases gb : zb ≤ 5
  · rw [if_pos gb] at hx
    rw [if_neg (by omega)] at hm
    obtain ⟨z7, h7, -, hx⟩ := hx
    obtain ⟨y7, k7, -, hm⟩ := hm
    have h7 := q_sWithin h7
    have e7 : z7 = y7 := h7.eq (q_mIn k7) Iff.rfl
    subst e7
    by_cases g7 : z7 = 0
    · rw [if_pos g7] at hx hm; exact same hx hm
    rw [if_neg g7] at hx hm
    obtain ⟨z8, h8, -, hx⟩ := hx
    obtain ⟨y8, k8, -, hm⟩ := hm
    have h8 := q_sWithin h8
    have e8 : z8 = y8 := h8.eq (q_mIn k8) Iff.rfl
    subst e8
    by_cases g8 : z8 = 0
    · rw [if_pos g8] at hx hm; exact same hx hm
    rw [if_neg g8] at hx hm
    obtain ⟨z9, h9, -, hx⟩ := hx
    obtain ⟨y9, k9, -, hm⟩ := hm
    have h9 := q_sWithin h9
    have e9 : z9 = y9 := h9.eq (q_mIn k9) Iff.rfl
    subst e9
    by_cases g9 : z9 = 0
    · rw [if_neg (fun hh => hh g9)] at hx
      rw [if_pos g9] at hm
      exact same hx hm
    rw [if_pos g9] at hx
    rw [if_neg g9] at hm
    obtain ⟨z10, e10, -, hx⟩ := rdb_g hx
    obtain ⟨y10, f10, -, hm⟩ := rdb_g hm
    have e : z10 = y10 := by rw [← e10, ← f10]; exact h.1
    subst e
    by_cases g10 : x + 1 ≤ z10
    · rw [if_pos g10] at hx hm
      have c1 : V2 58 1 = 0 := by
        refine lop4_k (fun _ _ _ _ => True) (fun r : Int × (Nat → Nat → Int) => r.2 58 1 = 0) (fun rc hrc za zb zc zd _ r h => ?_) _ _ _ _ _ trivial _ hx
        by_cases ga : x ≤ za
        · rw [if_pos ga] at h
          obtain ⟨V9, e9, h⟩ := rdb_g h
          have fin : ∀ c : Int, rtn (c, V9) r → r.2 58 1 = 0 := fun c h => by
            simp only [rtn] at h
            rw [h]
            show V9 58 1 = 0
            rw [← e9, up2_s]
          by_cases gv : ¬ v = 0
          · rw [if_pos gv] at h
            by_cases gv1 : ¬ v = 1
            · rw [if_pos gv1] at h
              by_cases gw : ¬ lcI zd 0 = 0
              · rw [if_pos gw] at h; exact fin _ h
              · rw [if_neg gw] at h; exact fin _ h
            · rw [if_neg gv1] at h; exact fin _ h
          · rw [if_neg gv] at h; exact fin _ h
        · rw [if_neg ga] at h
          refine lop3_k (fun _ _ _ => True) (fun r : Int × (Nat → Nat → Int) => r.2 58 1 = 0) (fun rc2 hrc2 wa wb wc _ r h => ?_) _ _ _ _ trivial _ h
          by_cases gw : y < wa
          · rw [if_pos gw] at h
            have h := jnk_d h
            by_cases gx : ¬ wc = 0
            · rw [if_pos gx] at h
              obtain ⟨_, -, h⟩ := rdb_g h
              obtain ⟨_, -, h⟩ := rdb_g h
              exact hrc _ _ _ _ trivial _ h
            · rw [if_neg gx] at h
              by_cases gy : ¬ zc = (-2)
              · rw [if_pos gy] at h
                obtain ⟨_, -, h⟩ := rdb_g h
                obtain ⟨_, -, h⟩ := rdb_g h
                exact hrc _ _ _ _ trivial _ h
              · rw [if_neg gy] at h
                obtain ⟨_, -, h⟩ := rdb_g h
                obtain ⟨_, -, h⟩ := rdb_g h
                exact hrc _ _ _ _ trivial _ h
          · rw [if_neg gw] at h
            obtain ⟨wd, -, -, h⟩ := rdb_g h
            have h := jnk_d h
            by_cases gx : ¬ wd = wa
            · rw [if_pos gx] at h; exact hrc2 _ _ _ trivial _ h
            · rw [if_neg gx] at h
              obtain ⟨_, -, -, h⟩ := h
              obtain ⟨_, -, -, h⟩ := rdb_g h
              obtain ⟨we, -, -, h⟩ := h
              by_cases gy : we = 0
              · rw [if_pos gy] at h; exact hrc2 _ _ _ trivial _ h
              · rw [if_neg gy] at h
                obtain ⟨_, -, h⟩ := rdb_g h
                obtain ⟨_, -, -, h⟩ := rdb_g h
                exact hrc2 _ _ _ trivial _ h
      have c2 : X 0 4 = 0 := by
        obtain ⟨W9, f9, hm⟩ := rdb_g hm
        have fin : ∀ (c : Int) (r : Int × (Nat → Nat → Int)), rtn (c, W9) r → r.2 0 4 = 0 := fun c r h => by
          simp only [rtn] at h
          rw [h]
          show W9 0 4 = 0
          rw [← f9, up2_s]
        refine lop4_k (fun _ _ _ _ => True) (fun r : Int × (Nat → Nat → Int) => r.2 0 4 = 0) (fun rc hrc za zb zc zd _ r h => ?_) _ _ _ _ _ trivial _ hm
        by_cases ga : x ≤ za
        · rw [if_pos ga] at h
          by_cases gv : ¬ v = 0
          · rw [if_pos gv] at h
            by_cases gv1 : ¬ v = 1
            · rw [if_pos gv1] at h
              by_cases gw : ¬ lcI zd 0 = 0
              · rw [if_pos gw] at h; exact fin _ _ h
              · rw [if_neg gw] at h; exact fin _ _ h
            · rw [if_neg gv1] at h; exact fin _ _ h
          · rw [if_neg gv] at h; exact fin _ _ h
        · rw [if_neg ga] at h
          refine lop3_k (fun _ _ _ => True) (fun r : Int × (Nat → Nat → Int) => r.2 0 4 = 0) (fun rc2 hrc2 wa wb wc _ r h => ?_) _ _ _ _ trivial _ h
          by_cases gw : 256 ≤ wa
          · rw [if_pos gw] at h
            obtain ⟨_, -, h⟩ := rdb_g h
            have h := jnk_d h
            by_cases gx : ¬ wc = 0
            · rw [if_pos gx] at h
              obtain ⟨_, -, h⟩ := rdb_g h
              exact hrc _ _ _ _ trivial _ h
            · rw [if_neg gx] at h
              by_cases gy : ¬ zc = (-2)
              · rw [if_pos gy] at h
                obtain ⟨_, -, h⟩ := rdb_g h
                exact hrc _ _ _ _ trivial _ h
              · rw [if_neg gy] at h
                obtain ⟨_, -, h⟩ := rdb_g h
                exact hrc _ _ _ _ trivial _ h
          · rw [if_neg gw] at h
            obtain ⟨_, -, h⟩ := rdb_g h
            obtain ⟨wd, -, -, h⟩ := rdb_g h
            have h := jnk_d h
            by_cases gx : ¬ wd = 0
            · rw [if_pos gx] at h; exact hrc2 _ _ _ trivial _ h
            · rw [if_neg gx] at h
              obtain ⟨_, -, -, h⟩ := rdb_g h
              obtain ⟨_, -, -, h⟩ := rdb_g h
              obtain ⟨_, -, h⟩ := h
              obtain ⟨_, -, h⟩ := rdb_g h
              obtain ⟨_, -, h⟩ := rdb_g h
              obtain ⟨_, -, h⟩ := rdb_g h
              obtain ⟨we, -, h⟩ := h
              obtain ⟨_, -, -, h⟩ := rdb_g h
              obtain ⟨wf, -, -, h⟩ := rdb_g h
              by_cases gy : we = wf
              · rw [if_pos gy] at h
                obtain ⟨_, -, h⟩ := rdb_g h
                obtain ⟨_, -, -, h⟩ := rdb_g h
                exact hrc2 _ _ _ trivial _ h
              · rw [if_neg gy] at h; exact hrc2 _ _ _ trivial _ h
      exact TP.nil c1 c2
    · rw [if_neg g10] at hx hm; exact same hx hm
  · rw [if_neg gb] at hx
    rw [if_pos (by omega)] at hm
    exact same hx hm
/-- what is left of a rota on the reference's side -/
def RW (W X : Nat → Nat → Int) : Prop := X 0 4 = 0 ∧ ∀ k : Nat, k < 81 → X 1 k = W 1 k
theorem rw_loop1 {x c : Int} {W J : Nat → Nat → Int} {R : Nat → Nat → Nat} {b : (Int → (Nat → Nat → Int) → Int × (Nat → Nat → Int) → Prop) → Int → (Nat → Nat → Int) → Int × (Nat → Nat → Int) → Prop}
    (hb : b = (fun rc90 (z89 : Int) (V90 : Nat → Nat → Int) => rdb (V90 0 5) fun z91 => fct (0 ≤ z91 ∧ z91 ≤ 220) <| rdb (V90 0 6) fun z92 => fct (0 ≤ z92 ∧ z92 ≤ 220) <| rdb (V90 0 46) fun z93 => fct (0 ≤ z93 ∧ z93 ≤ 84) <| rdb (V90 0 47) fun z94 => fct (0 ≤ z94 ∧ z94 ≤ 12) <| (if z89 = 0 then rdb (up2 V90 0 4 0) fun V96 => rdb (V96 0 7) fun z97 => rtn (z97, V96) else (if z92 ≤ z91 then rdb (up2 V90 0 4 0) fun V108 => (if ¬ c = 0 then calUM 16925072156758100966113280 V108 (f_m_goesByRota x V108 J R) fun V110 => (if ¬ c = 1 then rdb (V110 0 50) fun z112 => rtn (z112, V110) else rdb (V110 0 49) fun z113 => rtn (z113, V110)) else rtn (z93, V108)) else calVM 160 V90 (f_m_takes 47 V90 J R) fun z114 V114 => fct (0 ≤ z114 ∧ z114 ≤ 1) <| rdb (V114 0 5) fun z115 => fct (0 ≤ z115 ∧ z115 ≤ 220) <| (if z114 = 0 then rc90 0 V114 else calVM 19807040628566295504618520736 V114 (f_m_readsWeek V114 J R) fun z118 V118 => fct (0 ≤ z118 ∧ z118 ≤ 1) <| rdb (V118 0 6) fun z119 => fct (0 ≤ z119 ∧ z119 ≤ 220) <| rdb (V118 0 5) fun z120 => fct (0 ≤ z120 ∧ z120 ≤ 220) <| (if z118 = 0 then rc90 0 V118 else rc90 1 V118))))))
    {n : Nat} {w : Int} {V : Nat → Nat → Int} (hV : ∀ k : Nat, k < 81 → V 1 k = W 1 k) {r : Int × (Nat → Nat → Int)} (h : lop2 n b w V r) : RW W r.2 := by
  refine lop2_k (fun _ V => ∀ k : Nat, k < 81 → V 1 k = W 1 k) (fun r : Int × (Nat → Nat → Int) => RW W r.2) (fun rc hrc z V hV r h => ?_) _ _ _ hV _ h
  rw [hb] at h
  obtain ⟨_, -, -, h⟩ := rdb_g h
  obtain ⟨_, -, -, h⟩ := rdb_g h
  obtain ⟨_, -, -, h⟩ := rdb_g h
  obtain ⟨_, -, -, h⟩ := rdb_g h
  by_cases g : z = 0
  · rw [if_pos g] at h
    obtain ⟨V9, e9, h⟩ := rdb_g h
    obtain ⟨_, -, h⟩ := rdb_g h
    simp only [rtn] at h
    subst h
    show RW W V9
    exact ⟨by rw [← e9, up2_s], fun k hk => by rw [← e9, up2_c _ _ (by decide)]; exact hV k hk⟩
  · rw [if_neg g] at h
    split at h
    · obtain ⟨V9, e9, h⟩ := rdb_g h
      have hV9 : RW W V9 := ⟨by rw [← e9, up2_s], fun k hk => by rw [← e9, up2_c _ _ (by decide)]; exact hV k hk⟩
      split at h
      · obtain ⟨V8, h8, hF, h⟩ := h
        have hV8 : RW W V8 := ⟨by rw [hF.fl 4 (by decide)]; exact hV9.1, fun k hk => by rw [k_goesByRota h8 k hk]; exact hV9.2 k hk⟩
        split at h
        · obtain ⟨_, -, h⟩ := rdb_g h
          simp only [rtn] at h
          subst h
          exact hV8
        · obtain ⟨_, -, h⟩ := rdb_g h
          simp only [rtn] at h
          subst h
          exact hV8
      · simp only [rtn] at h
        subst h
        exact hV9
    · obtain ⟨_, V2, -, hF2, -, h⟩ := h
      have hV2 : ∀ k : Nat, k < 81 → V2 1 k = W 1 k := fun k hk => by rw [hF2.rw 1 (by decide) (by decide)]; exact hV k hk
      obtain ⟨_, -, -, h⟩ := rdb_g h
      split at h
      · exact hrc _ _ hV2 _ h
      · obtain ⟨_, V3, -, hF3, -, h⟩ := h
        have hV3 : ∀ k : Nat, k < 81 → V3 1 k = W 1 k := fun k hk => by rw [hF3.rw 1 (by decide) (by decide)]; exact hV2 k hk
        obtain ⟨_, -, -, h⟩ := rdb_g h
        obtain ⟨_, -, -, h⟩ := rdb_g h
        split at h
        · exact hrc _ _ hV3 _ h
        · exact hrc _ _ hV3 _ h
end
