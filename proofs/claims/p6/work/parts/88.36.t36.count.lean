-- answers: count (own work)
def orb (s : Int) : Nat → Int
  | 0 => 0
  | l + 1 => iOr (orb s l) (if bt s (l : Int) = 0 then 0 else iShl 1 (l : Int))
theorem orb4 : ∀ s : Nat, s < 16 → orb (s : Int) 4 = s := by decide +kernel
theorem orb8 : ∀ s : Nat, s < 256 → orb (s : Int) 8 = s := by decide +kernel
theorem orb_4 {s : Int} (h : 0 ≤ s ∧ s < 16) : orb s 4 = s := by
  have e := orb4 s.toNat (by omega)
  rw [show ((s.toNat : Nat) : Int) = s by omega] at e
  exact e
theorem orb_8 {s : Int} (h : 0 ≤ s ∧ s < 256) : orb s 8 = s := by
  have e := orb8 s.toNat (by omega)
  rw [show ((s.toNat : Nat) : Int) = s by omega] at e
  exact e
theorem q_toldP {b : Nat} {r : Int} {V J : Nat → Nat → Int} {R : Nat → Nat → Nat} {N : Nat → Int} (h : RLz b V N) (hx : f_s_toldPlants b V J R r) : r = N 76 := by
  unfold f_s_toldPlants at hx
  obtain ⟨bX, hbX, hx9⟩ := lop2_g hx
  have key : ∀ (n l : Nat), l ≤ 4 → lop2 n bX (l : Int) (orb (N 76) l) r → r = orb (N 76) 4 := by
    intro n
    induction n with
    | zero => intro l _ h; exact False.elim h
    | succ n ih =>
      intro l hl hx
      rw [lop2_s hbX] at hx
      by_cases g : (4 : Int) ≤ l
      · rw [if_pos g] at hx
        have hx : r = orb (N 76) l := hx
        rw [hx, show l = 4 by omega]
      · rw [if_neg g] at hx
        obtain ⟨c, ec, hx⟩ := rdb_g hx
        obtain ⟨z, ez, -, hx⟩ := rdb_g hx
        have hx := jnk_d hx
        rw [Int.toNat_natCast] at ec
        have e0 : z = bt (N 76) l := by rw [← ez, ← ec]; exact (h.1 l (by omega)).1
        by_cases g0 : z = 0
        · rw [if_pos g0] at hx
          obtain ⟨o, eo, hx⟩ := rdb_g hx
          refine ih (l + 1) (by omega) ?_
          have e1 : orb (N 76) (l + 1) = o := by rw [orb, if_pos (by omega), eo]
          rw [e1, Int.natCast_add]
          exact hx
        · rw [if_neg g0] at hx
          obtain ⟨s, es, hx⟩ := rdb_g hx
          obtain ⟨o, eo, hx⟩ := rdb_g hx
          refine ih (l + 1) (by omega) ?_
          have e1 : orb (N 76) (l + 1) = o := by rw [orb, if_neg (by omega), es, eo]
          rw [e1, Int.natCast_add]
          exact hx
  rw [key _ 0 (by omega) hx9, orb_4 h.2.2.2.2.2.1]
theorem q_deadB {b : Nat} {r : Int} {V J : Nat → Nat → Int} {R : Nat → Nat → Nat} {N : Nat → Int} (h : RLz b V N) (hx : f_s_deadBits b V J R r) : r = N 77 := by
  unfold f_s_deadBits at hx
  obtain ⟨bX, hbX, hx9⟩ := lop2_g hx
  have key : ∀ (n l : Nat), l ≤ 4 → lop2 n bX (l : Int) (orb (N 77) l) r → r = orb (N 77) 4 := by
    intro n
    induction n with
    | zero => intro l _ h; exact False.elim h
    | succ n ih =>
      intro l hl hx
      rw [lop2_s hbX] at hx
      by_cases g : (4 : Int) ≤ l
      · rw [if_pos g] at hx
        have hx : r = orb (N 77) l := hx
        rw [hx, show l = 4 by omega]
      · rw [if_neg g] at hx
        obtain ⟨c, ec, hx⟩ := rdb_g hx
        obtain ⟨z, hz, -, hx⟩ := hx
        have hx := jnk_d hx
        rw [Int.toNat_natCast] at ec
        have hz := q_sDead hz
        have hd := (h.1 l (by omega)).2.2.2.2.2.2.2.2.1
        rw [ec] at hd
        have br := bt_r (N 77) l
        have e0 : z = bt (N 77) l := by
          rcases hz with ⟨hz, hq⟩ | ⟨hz, hq⟩
          · rw [hz]; exact (hd.mpr hq).symm
          · have : ¬ bt (N 77) l = 1 := fun hh => hq (hd.mp hh)
            omega
        by_cases g0 : z = 0
        · rw [if_pos g0] at hx
          obtain ⟨o, eo, hx⟩ := rdb_g hx
          refine ih (l + 1) (by omega) ?_
          have e1 : orb (N 77) (l + 1) = o := by rw [orb, if_pos (by omega), eo]
          rw [e1, Int.natCast_add]
          exact hx
        · rw [if_neg g0] at hx
          obtain ⟨s, es, hx⟩ := rdb_g hx
          obtain ⟨o, eo, hx⟩ := rdb_g hx
          refine ih (l + 1) (by omega) ?_
          have e1 : orb (N 77) (l + 1) = o := by rw [orb, if_neg (by omega), es, eo]
          rw [e1, Int.natCast_add]
          exact hx
  rw [key _ 0 (by omega) hx9, orb_4 h.2.2.2.2.2.2.1]
theorem q_toldE {b : Nat} {r : Int} {V J : Nat → Nat → Int} {R : Nat → Nat → Nat} {N : Nat → Int} (h : RLz b V N) (hx : f_s_toldPeople b V J R r) : r = N 78 := by
  unfold f_s_toldPeople at hx
  obtain ⟨bX, hbX, hx9⟩ := lop2_g hx
  have key : ∀ (n l : Nat), l ≤ 8 → lop2 n bX (l : Int) (orb (N 78) l) r → r = orb (N 78) 8 := by
    intro n
    induction n with
    | zero => intro l _ h; exact False.elim h
    | succ n ih =>
      intro l hl hx
      rw [lop2_s hbX] at hx
      by_cases g : (8 : Int) ≤ l
      · rw [if_pos g] at hx
        have hx : r = orb (N 78) l := hx
        rw [hx, show l = 8 by omega]
      · rw [if_neg g] at hx
        obtain ⟨c, ec, hx⟩ := rdb_g hx
        obtain ⟨z, ez, -, hx⟩ := rdb_g hx
        have hx := jnk_d hx
        rw [Int.toNat_natCast, Nat.one_mul] at ec
        have e0 : z = bt (N 78) l := by rw [← ez, ← ec]; exact (h.2.1 l (by omega)).1
        by_cases g0 : z = 0
        · rw [if_pos g0] at hx
          obtain ⟨o, eo, hx⟩ := rdb_g hx
          refine ih (l + 1) (by omega) ?_
          have e1 : orb (N 78) (l + 1) = o := by rw [orb, if_pos (by omega), eo]
          rw [e1, Int.natCast_add]
          exact hx
        · rw [if_neg g0] at hx
          obtain ⟨s, es, hx⟩ := rdb_g hx
          obtain ⟨o, eo, hx⟩ := rdb_g hx
          refine ih (l + 1) (by omega) ?_
          have e1 : orb (N 78) (l + 1) = o := by rw [orb, if_neg (by omega), es, eo]
          rw [e1, Int.natCast_add]
          exact hx
  rw [key _ 0 (by omega) hx9, orb_8 h.2.2.2.2.2.2.2.1]
theorem mIn_no {x l u z : Int} (h : f_m_in x l u z) (hn : ¬ (l ≤ x ∧ x ≤ u)) : z = 0 := by
  rcases q_mIn h with ⟨-, h⟩ | ⟨h, -⟩
  · exact absurd h hn
  · exact h
theorem mIn_yes {x l u z : Int} (h : f_m_in x l u z) (hn : l ≤ x ∧ x ≤ u) : ¬ z = 0 := fun hz => (q_mIn h).off hz hn
theorem e_count {x a b : Int} {V J W Jm : Nat → Nat → Int} {R Rm : Nat → Nat → Nat} (hxr : R32 x) (h : WR R V W) (hx : f_s_count x V J R a) (hm : f_m_count x W Jm Rm b) : a = b := by
  have hL := h.1.1
  have fin : ∀ {c d : Int}, rtn c a → rtn d b → c = d → a = b := fun h1 h2 e => by
    have h1 : a = _ := h1
    have h2 : b = _ := h2
    rw [h1, h2, e]
  unfold f_s_count at hx
  unfold f_m_count at hm
  obtain ⟨z1, e1, hx⟩ := rdb_g hx
  obtain ⟨z2, h2, -, hx⟩ := hx
  have h2 := q_sPlace h2
  have w1 := wr_cases (z := x - 10) ⟨by omega, by omega⟩
  by_cases g2 : z2 = 0
  · rw [if_pos g2] at hx
    have q2 := h2.off g2
    have n10 : ¬ (10 ≤ x ∧ x ≤ 13) := by omega
    by_cases c20 : x < 20
    · rw [if_pos c20] at hx
      by_cases c0 : x = 0
      · rw [if_pos c0] at hx hm
        exact fin (c := V 1 3) (d := W 1 79) hx hm hL.2.2.2.1
      rw [if_neg c0] at hx hm
      by_cases c1 : x = 1
      · rw [if_pos c1] at hx hm
        obtain ⟨z, hz, hx⟩ := hx
        exact fin (d := W 1 76) hx hm (q_toldP hL hz)
      rw [if_neg c1] at hx hm
      by_cases c2 : x = 2
      · rw [if_pos c2] at hx hm
        obtain ⟨z, hz, hx⟩ := hx
        exact fin (d := W 1 77) hx hm (q_deadB hL hz)
      rw [if_neg c2] at hx hm
      by_cases c3 : x = 3
      · rw [if_pos c3] at hx hm
        obtain ⟨z, hz, hx⟩ := hx
        exact fin (d := W 1 78) hx hm (q_toldE hL hz)
      rw [if_neg c3] at hx hm
      by_cases c4 : x = 4
      · rw [if_pos c4] at hx hm
        obtain ⟨t, et, hx⟩ := rdb_g hx
        obtain ⟨z, ez, -, hx⟩ := rdb_g hx
        obtain ⟨y, ey, -, hm⟩ := rdb_g hm
        refine fin hx hm ?_
        rw [← ez, ← ey, ← et]
        exact h.2.2.2.1.1.1.2.1
      rw [if_neg c4] at hx hm
      by_cases c5 : x = 5
      · rw [if_pos c5] at hx hm
        obtain ⟨z, ez, -, hx⟩ := rdb_g hx
        obtain ⟨y, ey, -, hm⟩ := rdb_g hm
        refine fin hx hm ?_
        rw [← ez, ← ey]
        exact h.2.2.2.2.1
      rw [if_neg c5] at hx hm
      by_cases c6 : x = 6
      · rw [if_pos c6] at hx hm
        exact fin (c := V 1 4) (d := W 1 80) hx hm hL.2.2.2.2.1
      rw [if_neg c6] at hx hm
      obtain ⟨y1, k1, -, hm⟩ := hm
      rw [if_pos (mIn_no k1 n10)] at hm
      obtain ⟨y2, k2, -, hm⟩ := hm
      rw [if_pos (mIn_no k2 (by omega))] at hm
      obtain ⟨y3, k3, -, hm⟩ := hm
      rw [if_pos (mIn_no k3 (by omega))] at hm
      obtain ⟨y4, k4, -, hm⟩ := hm
      rw [if_pos (mIn_no k4 (by omega))] at hm
      exact fin hx hm rfl
    · rw [if_neg c20] at hx
      obtain ⟨z20, e20, -, hx⟩ := rdb_g hx
      obtain ⟨z21, e21, -, hx⟩ := rdb_g hx
      rw [iDiv_e hxr (by decide), Int.tdiv_eq_ediv_of_nonneg (by omega)] at e20
      rw [iRem_e hxr (by decide), Int.tmod_eq_emod_of_nonneg (by omega)] at e21
      obtain ⟨z22, h22, hx⟩ := hx
      have hx : a = z22 := hx
      unfold f_s_countPerson at h22
      obtain ⟨zp, hp, -, h22⟩ := h22
      have hp := q_sPerson hp
      have hip := hL.isPe (x := z21)
      have he := hL.2.1 z21.toNat
      rw [if_neg (by omega), if_neg (by omega), if_neg (by omega), if_neg (by omega), if_neg (by omega), if_neg (by omega), if_neg (by omega)] at hm
      obtain ⟨y1, k1, -, hm⟩ := hm
      rw [if_pos (mIn_no k1 n10)] at hm
      obtain ⟨y2, k2, -, hm⟩ := hm
      by_cases c27 : x ≤ 27
      · rw [if_neg (mIn_yes k2 (by omega))] at hm
        obtain ⟨y5, k5, -, hm⟩ := hm
        have k5 := q_mPerson k5
        have e25 : x - 20 = z21 := by omega
        rw [e25] at k5
        have ezy : zp = y5 := hp.eq k5 hip
        subst ezy
        by_cases gp : zp = 0
        · rw [if_neg (fun hh => hh gp)] at h22
          rw [if_pos gp] at hm
          obtain ⟨y3, k3, -, hm⟩ := hm
          rw [if_pos (mIn_no k3 (by omega))] at hm
          obtain ⟨y4, k4, -, hm⟩ := hm
          rw [if_pos (mIn_no k4 (by omega))] at hm
          exact fin (c := -1) (hx.trans h22) hm rfl
        · rw [if_pos gp, if_pos (by omega)] at h22
          rw [if_neg gp] at hm
          obtain ⟨c, ec, h22⟩ := rdb_g h22
          rw [Nat.one_mul] at ec
          refine fin (c := V c 1) (d := W 1 (x + 32).toNat) (hx.trans h22) hm ?_
          rw [← ec, show (x + 32).toNat = 52 + z21.toNat by omega]
          exact (he (by omega)).2.1
      rw [if_pos (mIn_no k2 (by omega))] at hm
      obtain ⟨y3, k3, -, hm⟩ := hm
      by_cases c37 : 30 ≤ x ∧ x ≤ 37
      · rw [if_neg (mIn_yes k3 c37)] at hm
        obtain ⟨y5, k5, -, hm⟩ := hm
        have k5 := q_mPerson k5
        have e25 : x - 30 = z21 := by omega
        rw [e25] at k5
        have ezy : zp = y5 := hp.eq k5 hip
        subst ezy
        by_cases gp : zp = 0
        · rw [if_neg (fun hh => hh gp)] at h22
          rw [if_pos gp] at hm
          obtain ⟨y4, k4, -, hm⟩ := hm
          rw [if_pos (mIn_no k4 (by omega))] at hm
          exact fin (c := -1) (hx.trans h22) hm rfl
        · rw [if_pos gp, if_neg (by omega), if_pos (by omega)] at h22
          rw [if_neg gp] at hm
          obtain ⟨c, ec, h22⟩ := rdb_g h22
          rw [Nat.one_mul] at ec
          obtain ⟨z9, e9, -, h22⟩ := rdb_g h22
          obtain ⟨y9, f9, -, hm⟩ := rdb_g hm
          refine fin (hx.trans h22) hm ?_
          rw [← e9, ← f9, ← ec, show (x + 30).toNat = 60 + z21.toNat by omega]
          exact (he (by omega)).2.2.1
      rw [if_pos (mIn_no k3 c37)] at hm
      obtain ⟨y4, k4, -, hm⟩ := hm
      by_cases c47 : 40 ≤ x ∧ x ≤ 47
      · rw [if_neg (mIn_yes k4 c47)] at hm
        obtain ⟨y5, k5, -, hm⟩ := hm
        have k5 := q_mPerson k5
        have e25 : x - 40 = z21 := by omega
        rw [e25] at k5
        have ezy : zp = y5 := hp.eq k5 hip
        subst ezy
        by_cases gp : zp = 0
        · rw [if_neg (fun hh => hh gp)] at h22
          rw [if_pos gp] at hm
          exact fin (c := -1) (hx.trans h22) hm rfl
        · rw [if_pos gp, if_neg (by omega), if_neg (by omega), if_pos (by omega)] at h22
          rw [if_neg gp] at hm
          obtain ⟨c, ec, h22⟩ := rdb_g h22
          rw [Nat.one_mul] at ec
          refine fin (c := V c 3) (d := W 1 (x + 28).toNat) (hx.trans h22) hm ?_
          rw [← ec, show (x + 28).toNat = 68 + z21.toNat by omega]
          exact (he (by omega)).2.2.2
      rw [if_pos (mIn_no k4 c47)] at hm
      refine fin (c := -1) ?_ hm rfl
      rw [hx]
      by_cases gp : zp = 0
      · rw [if_neg (fun hh => hh gp)] at h22
        exact h22
      · have q := hp.on gp
        rw [if_pos gp, if_neg (by omega), if_neg (by omega), if_neg (by omega)] at h22
        exact h22
  · rw [if_neg g2] at hx
    have q2 := h2.on g2
    rw [if_neg (by omega), if_neg (by omega), if_neg (by omega), if_neg (by omega), if_neg (by omega), if_neg (by omega), if_neg (by omega)] at hm
    obtain ⟨y1, k1, -, hm⟩ := hm
    rw [if_neg (mIn_yes k1 (by omega))] at hm
    obtain ⟨z3, e3, hx⟩ := rdb_g hx
    obtain ⟨t, et, hx⟩ := rdb_g hx
    obtain ⟨z, ez, -, hx⟩ := rdb_g hx
    obtain ⟨y, ey, -, hm⟩ := rdb_g hm
    refine fin hx hm ?_
    have e := (h.2.2.2.1.1.2 z3.toNat (by omega)).2.1
    rw [← ez, ← ey, ← et, show (x - 9).toNat = z3.toNat + 1 by omega]
    exact e
