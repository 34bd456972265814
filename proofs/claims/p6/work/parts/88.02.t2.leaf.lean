-- what the relations of small methods say (own work)
theorem if_r {ρ : Type} {c : Prop} {dc : Decidable c} {A B : ρ → Prop} {r : ρ} : (@ite (ρ → Prop) c dc A B) r = ((c ∧ A r) ∨ (¬ c ∧ B r)) := by
  by_cases h : c
  · rw [if_pos h]; simp [h]
  · rw [if_neg h]; simp [h]
theorem Sq.eq {a b : Int} {P Q : Prop} (h : Sq a P) (k : Sq b Q) (e : P ↔ Q) : a = b := by
  rcases h with ⟨h, hp⟩ | ⟨h, hp⟩
  · rcases k with ⟨k, hq⟩ | ⟨k, hq⟩
    · omega
    · exact absurd (e.mp hp) hq
  · rcases k with ⟨k, hq⟩ | ⟨k, hq⟩
    · exact absurd (e.mpr hq) hp
    · omega
theorem lop3_g {α β γ ρ : Type} {n : Nat} {b : (α → β → γ → ρ → Prop) → α → β → γ → ρ → Prop} {x : α} {y : β} {z : γ} {r : ρ} (h : lop3 n b x y z r) : ∃ b2, b2 = b ∧ lop3 n b2 x y z r := ⟨b, rfl, h⟩
theorem lop2_g {α β ρ : Type} {n : Nat} {b : (α → β → ρ → Prop) → α → β → ρ → Prop} {x : α} {y : β} {r : ρ} (h : lop2 n b x y r) : ∃ b2, b2 = b ∧ lop2 n b2 x y r := ⟨b, rfl, h⟩
theorem lop1_g {α ρ : Type} {n : Nat} {b : (α → ρ → Prop) → α → ρ → Prop} {x : α} {r : ρ} (h : lop1 n b x r) : ∃ b2, b2 = b ∧ lop1 n b2 x r := ⟨b, rfl, h⟩
theorem rdb_g {α ρ : Type} {x : α} {k : α → ρ → Prop} {r : ρ} (h : rdb x k r) : ∃ z : α, x = z ∧ k z r := ⟨x, rfl, h⟩
theorem q_has {s l r : Int} (h : f_m_has s l r) : r = bt s l := by
  simp only [f_m_has, rdb, fct, rtn, if_r] at h
  obtain ⟨hr, ⟨h1, h2⟩ | ⟨h1, h2⟩⟩ := h
  · unfold bt; omega
  · unfold bt; omega
theorem q_mPlant {x r : Int} {V J : Nat → Nat → Int} {R : Nat → Nat → Nat} (h : f_m_isPlant x V J R r) : Sq r (0 ≤ x ∧ x < 4 ∧ bt (V 1 76) x = 1) := by
  simp only [f_m_isPlant, rdb, fct, rtn, calR, if_r] at h
  unfold Sq
  rcases h with ⟨h1, h⟩ | ⟨h1, ⟨h2, h⟩ | ⟨h2, z, hz, hr, h⟩⟩
  · omega
  · omega
  · have := q_has hz
    omega
theorem q_mLives {x r : Int} {V J : Nat → Nat → Int} {R : Nat → Nat → Nat} (h : f_m_lives x V J R r) : Sq r ((0 ≤ x ∧ x < 4 ∧ bt (V 1 76) x = 1) ∧ ¬ bt (V 1 77) x = 1) := by
  simp only [f_m_lives, rdb, fct, rtn, calR, if_r] at h
  obtain ⟨z, hz, hr, h⟩ := h
  have hq := q_mPlant hz
  have hb := bt_r (V 1 77) x
  unfold Sq at hq ⊢
  rcases h with ⟨h1, h⟩ | ⟨h1, y, hy, hr2, h⟩
  · omega
  · have := q_has hy
    omega
theorem q_mPerson {x r : Int} {V J : Nat → Nat → Int} {R : Nat → Nat → Nat} (h : f_m_isPerson x V J R r) : Sq r (0 ≤ x ∧ x < 8 ∧ bt (V 1 78) x = 1) := by
  simp only [f_m_isPerson, rdb, fct, rtn, calR, if_r] at h
  unfold Sq
  rcases h with ⟨h1, h⟩ | ⟨h1, ⟨h2, h⟩ | ⟨h2, z, hz, hr, h⟩⟩
  · omega
  · omega
  · have := q_has hz
    omega
theorem q_place {x y r : Int} (h : f_s_isPlace x y r) : Sq r (0 ≤ x ∧ x < y) := by
  simp only [f_s_isPlace, rtn, if_r] at h
  unfold Sq
  omega
theorem q_within {x y z r : Int} (h : f_s_isWithin x y z r) : Sq r (y ≤ x ∧ x ≤ z) := by
  simp only [f_s_isWithin, rtn, if_r] at h
  unfold Sq
  omega
theorem q_in {x y z r : Int} (h : f_m_in x y z r) : Sq r (y ≤ x ∧ x ≤ z) := by
  simp only [f_m_in, rtn, if_r] at h
  unfold Sq
  omega
theorem q_min {x y r : Int} (h : f_m_min x y r) : r = min x y := by
  simp only [f_m_min, rtn, if_r] at h
  omega
theorem q_max {x y r : Int} (h : f_m_max x y r) : r = max x y := by
  simp only [f_m_max, rtn, if_r] at h
  omega
theorem q_sPlant {b : Nat} {x r : Int} {V J : Nat → Nat → Int} {R : Nat → Nat → Nat} (h : f_s_isPlant b x V J R r) : Sq r (0 ≤ x ∧ x < 4 ∧ ¬ V (b + 3 + 2 * x.toNat) 0 = 0) := by
  simp only [f_s_isPlant, rdb, fct, rtn, calR, if_r] at h
  obtain ⟨z, hz, hr, h⟩ := h
  have hq := q_place hz
  unfold Sq at hq ⊢
  omega
/-- dead, as the first side has it -/
def dedX (c : Nat → Int) : Prop := ¬ c 0 = 0 ∧ (c 3 ≤ c 4 ∨ c 3 ≤ c 5)
theorem q_sDead {c : Nat} {r : Int} {V J : Nat → Nat → Int} {R : Nat → Nat → Nat} (h : f_s_isDeadP c V J R r) : Sq r (dedX (V c)) := by
  simp only [f_s_isDeadP, rdb, fct, rtn, if_r] at h
  unfold Sq dedX
  omega
theorem q_sAlive {b : Nat} {x r : Int} {V J : Nat → Nat → Int} {R : Nat → Nat → Nat} (h : f_s_isAlive b x V J R r) : Sq r ((0 ≤ x ∧ x < 4 ∧ ¬ V (b + 3 + 2 * x.toNat) 0 = 0) ∧ ¬ dedX (V (b + 3 + 2 * x.toNat))) := by
  simp only [f_s_isAlive, rdb, fct, rtn, calR, if_r] at h
  obtain ⟨z, hz, hr, h⟩ := h
  have hq := q_sPlant hz
  rcases h with ⟨h1, h⟩ | ⟨h1, y, hy, hr2, h⟩
  · unfold Sq at hq ⊢
    right
    rcases hq with hq | hq
    · omega
    · exact ⟨h, fun hh => hq.2 hh.1⟩
  · have hd := q_sDead hy
    have hp : 0 ≤ x ∧ x < 4 ∧ ¬ V (b + 3 + 2 * x.toNat) 0 = 0 := Sq.on hq h1
    unfold Sq at hd ⊢
    rcases hd with hd | hd
    · right
      exact ⟨by omega, fun hh => hh.2 hd.2⟩
    · left
      exact ⟨by omega, hp, hd.2⟩
theorem q_sPerson {b : Nat} {x r : Int} {V J : Nat → Nat → Int} {R : Nat → Nat → Nat} (h : f_s_isPerson b x V J R r) : Sq r (0 ≤ x ∧ x < 8 ∧ ¬ V (b + 11 + x.toNat) 0 = 0) := by
  simp only [f_s_isPerson, rdb, fct, rtn, calR, if_r, Nat.one_mul] at h
  obtain ⟨z, hz, hr, h⟩ := h
  have hq := q_place hz
  unfold Sq at hq ⊢
  omega
/-- the next number of the draws -/
def drx (x : Int) : Int := (25173 * x + 13849) % 65536
theorem iAnd_n {a b : Nat} (ha : a < 2147483648) (hb : b < 2147483648) : iAnd (a : Int) (b : Int) = ((a &&& b : Nat) : Int) := by
  have e : ∀ q : Nat, q < 2147483648 → (Int32.ofInt (q : Int)).toBitVec.toNat = q := fun q hq => by
    have h3 : (Int32.ofInt (q : Int)).toBitVec.toInt = q := xi_toInt (a := (q : Int)) ⟨by omega, by omega⟩
    rw [BitVec.toInt_eq_toNat_cond] at h3
    have h4 := (Int32.ofInt (q : Int)).toBitVec.isLt
    split at h3 <;> omega
  have e2 : (Int32.ofInt (a : Int) &&& Int32.ofInt (b : Int)).toBitVec.toNat = a &&& b := by
    rw [Int32.toBitVec_and, BitVec.toNat_and, e a ha, e b hb]
  have h5 : a &&& b ≤ a := Nat.and_le_left
  show (Int32.ofInt (a : Int) &&& Int32.ofInt (b : Int)).toBitVec.toInt = _
  rw [BitVec.toInt_eq_toNat_cond, if_pos (by omega), e2]
theorem iAnd_65535 {z : Int} (h : 0 ≤ z ∧ z ≤ 2147483647) : iAnd z 65535 = z % 65536 := by
  obtain ⟨n, rfl⟩ : ∃ n : Nat, z = n := ⟨z.toNat, by omega⟩
  have := iAnd_n (a := n) (b := 65535) (by omega) (by decide)
  rw [show ((65535 : Nat) : Int) = 65535 from rfl] at this
  rw [this, show (65535 : Nat) = 2 ^ 16 - 1 from rfl, Nat.and_two_pow_sub_one_eq_mod]
  omega
theorem q_sDraw {b : Nat} {a : Int} {V J U : Nat → Nat → Int} {R : Nat → Nat → Nat} (h : f_s_draw b V J R (a, U)) (hx : 0 ≤ V b 4 ∧ V b 4 ≤ 65535) : a = drx (V b 4) % 10 ∧ U = up2 V b 4 (drx (V b 4)) := by
  simp only [f_s_draw, rdb, fct, rtn, Prod.mk.injEq] at h
  obtain ⟨-, -, h1, h2⟩ := h
  rw [wr_id (z := 25173 * V b 4) ⟨by omega, by omega⟩, wr_id ⟨by omega, by omega⟩, iAnd_65535 (by omega)] at h1 h2
  unfold drx
  rw [iRem_p (by omega) (by omega)] at h1
  exact ⟨h1, h2⟩
theorem q_mDraw {a : Int} {V J U : Nat → Nat → Int} {R : Nat → Nat → Nat} (h : f_m_draws V J R (a, U)) (hx : 0 ≤ V 1 80 ∧ V 1 80 ≤ 65535) : a = drx (V 1 80) % 10 ∧ U = up2 V 1 80 (drx (V 1 80)) := by
  simp only [f_m_draws, rdb, fct, rtn, Prod.mk.injEq] at h
  obtain ⟨-, -, h1, h2⟩ := h
  rw [wr_id (z := 25173 * V 1 80) ⟨by omega, by omega⟩, wr_id ⟨by omega, by omega⟩] at h1 h2
  have e := iRem_p (a := 25173 * V 1 80 + 13849) (b := 65536) ⟨by omega, by omega⟩ (by decide)
  rw [e] at h1 h2
  unfold drx
  rw [iRem_p (by omega) (by decide)] at h1
  exact ⟨h1, h2⟩
theorem drx_r (x : Int) : 0 ≤ drx x ∧ drx x ≤ 65535 := by unfold drx; omega
theorem q_bits {s r : Int} (h : f_m_bits s r) : r = cnt s := by
  have hs : ∀ {k : Int} {a : Int}, 0 ≤ a ∧ a ≤ 8 → wr (a + iAnd (iShr s k) 1) = a + bt s k := fun {k a} ha => by
    have := bt_r s k
    unfold bt at this ⊢
    exact wr_id ⟨by omega, by omega⟩
  have b0 := bt_r s 0
  have b1 := bt_r s 1
  have b2 := bt_r s 2
  have b3 := bt_r s 3
  have b4 := bt_r s 4
  have b5 := bt_r s 5
  have b6 := bt_r s 6
  have b7 := bt_r s 7
  simp only [f_m_bits, rdb] at h
  obtain ⟨b, hb, h⟩ := lop2_g h
  rw [lop2_s hb, if_neg (by decide)] at h
  obtain ⟨-, h⟩ := h
  rw [hs (k := 0) (a := 0) ⟨by decide, by decide⟩] at h
  rw [lop2_s hb, if_neg (by decide)] at h
  obtain ⟨-, h⟩ := h
  rw [show (0 + 1 : Int) = 1 by decide, hs (k := 1) (a := 0 + bt s 0) ⟨by omega, by omega⟩] at h
  rw [lop2_s hb, if_neg (by decide)] at h
  obtain ⟨-, h⟩ := h
  rw [show (1 + 1 : Int) = 2 by decide, hs (k := 2) (a := 0 + bt s 0 + bt s 1) ⟨by omega, by omega⟩] at h
  rw [lop2_s hb, if_neg (by decide)] at h
  obtain ⟨-, h⟩ := h
  rw [show (2 + 1 : Int) = 3 by decide, hs (k := 3) (a := 0 + bt s 0 + bt s 1 + bt s 2) ⟨by omega, by omega⟩] at h
  rw [lop2_s hb, if_neg (by decide)] at h
  obtain ⟨-, h⟩ := h
  rw [show (3 + 1 : Int) = 4 by decide, hs (k := 4) (a := 0 + bt s 0 + bt s 1 + bt s 2 + bt s 3) ⟨by omega, by omega⟩] at h
  rw [lop2_s hb, if_neg (by decide)] at h
  obtain ⟨-, h⟩ := h
  rw [show (4 + 1 : Int) = 5 by decide, hs (k := 5) (a := 0 + bt s 0 + bt s 1 + bt s 2 + bt s 3 + bt s 4) ⟨by omega, by omega⟩] at h
  rw [lop2_s hb, if_neg (by decide)] at h
  obtain ⟨-, h⟩ := h
  rw [show (5 + 1 : Int) = 6 by decide, hs (k := 6) (a := 0 + bt s 0 + bt s 1 + bt s 2 + bt s 3 + bt s 4 + bt s 5) ⟨by omega, by omega⟩] at h
  rw [lop2_s hb, if_neg (by decide)] at h
  obtain ⟨-, h⟩ := h
  rw [show (6 + 1 : Int) = 7 by decide, hs (k := 7) (a := 0 + bt s 0 + bt s 1 + bt s 2 + bt s 3 + bt s 4 + bt s 5 + bt s 6) ⟨by omega, by omega⟩] at h
  rw [lop2_s hb, if_pos (by decide)] at h
  unfold cnt
  have h : r = _ := h
  omega
