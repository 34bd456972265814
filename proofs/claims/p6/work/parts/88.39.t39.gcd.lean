-- a share in lowest terms, on both sides (own work)
theorem jDivI {a b : Int} (ha : R64 a) (hb : R64 b) : Int64.ofInt a / Int64.ofInt b = Int64.ofInt (a.tdiv b) := by
  refine Int64.toInt_inj.mp ?_
  rw [Int64.toInt_div, xj_toInt ha, xj_toInt hb, Int64.toInt_ofInt]
theorem jRem_e {a b : Int} (ha : 0 ≤ a ∧ a ≤ 9223372036854775807) (hb : 0 < b ∧ b ≤ 9223372036854775807) : jRem a b = a % b := by
  have h := jDivI (a := a) (b := b) ⟨by omega, by omega⟩ ⟨by omega, by omega⟩
  have e := Int.tmod_eq_emod_of_nonneg (b := b) ha.1
  have h1 := Int.emod_lt_of_pos a hb.1
  have h2 := Int.emod_nonneg a (b := b) (by omega)
  rw [jRem, h, ← Int64.ofInt_mul, ← Int64.ofInt_sub, show a - a.tdiv b * b = a.tmod b by rw [Int.tmod_def, Int.mul_comm], e]
  exact xj_toInt ⟨by omega, by omega⟩
theorem jDiv_e {a b : Int} (ha : 0 ≤ a ∧ a ≤ 9223372036854775807) (hb : 0 < b ∧ b ≤ 9223372036854775807) : jDiv a b = a / b := by
  have h := jDivI (a := a) (b := b) ⟨by omega, by omega⟩ ⟨by omega, by omega⟩
  have e := Int.tdiv_eq_ediv_of_nonneg (b := b) ha.1
  have h1 := Int.ediv_le_self b ha.1
  have h2 := Int.ediv_nonneg (b := b) ha.1 (by omega)
  rw [jDiv, h, e]
  exact xj_toInt ⟨by omega, by omega⟩
theorem lc0 (z : Int) : lcI z 0 = 0 ↔ z = 0 := by
  unfold lcI
  by_cases h : 0 < z
  · rw [if_pos h]; omega
  · rw [if_neg h]
    by_cases h2 : z = 0
    · rw [if_pos h2]; omega
    · rw [if_neg h2]; omega
theorem q_mGcd {x y : Nat} {r : Int} (hx : x ≤ 9223372036854775807) (hy : y ≤ 9223372036854775807) (h : f_m_gcd (x : Int) (y : Int) r) : r = ((Nat.gcd y x : Nat) : Int) := by
  unfold f_m_gcd at h
  obtain ⟨bX, hbX, h9⟩ := lop2_g h
  have key : ∀ (n a b : Nat), a ≤ 9223372036854775807 → b ≤ 9223372036854775807 → lop2 n bX (a : Int) (b : Int) r → r = ((Nat.gcd a b : Nat) : Int) := by
    intro n
    induction n with
    | zero => intro a b _ _ h; exact False.elim h
    | succ n ih =>
      intro a b ha hb h
      rw [lop2_s hbX] at h
      by_cases g : lcI (a : Int) 0 = 0
      · rw [if_pos g] at h
        have h : r = (b : Int) := h
        have g := (lc0 _).mp g
        rw [h, show a = 0 by omega, Nat.gcd_zero_left]
      · rw [if_neg g] at h
        have ga : 0 < a := by
          rcases Nat.eq_zero_or_pos a with e | e
          · exact absurd ((lc0 _).mpr (by omega)) g
          · exact e
        obtain ⟨z, ez, h⟩ := rdb_g h
        rw [jRem_e ⟨by omega, by omega⟩ ⟨by omega, by omega⟩, ← Int.natCast_emod] at ez
        rw [← ez] at h
        have hm := Nat.mod_lt b ga
        rw [ih (b % a) a (by omega) ha h, Nat.gcd_rec a b]
  exact key _ y x hy hx h9
theorem q_through {x y : Nat} {c r : Int} (hx : x ≤ 9223372036854775807) (hy : 0 < y ∧ y ≤ 9223372036854775807) (h : f_m_through (x : Int) (y : Int) c r) : r = if ¬ c = 0 then ((y / Nat.gcd x y : Nat) : Int) else ((x / Nat.gcd x y : Nat) : Int) := by
  unfold f_m_through at h
  obtain ⟨z, hz, h⟩ := h
  have hz := q_mGcd hx hy.2 hz
  have gp : 0 < Nat.gcd y x := Nat.gcd_pos_of_pos_left _ hy.1
  have gl : Nat.gcd y x ≤ y := Nat.gcd_le_left _ hy.1
  subst hz
  rw [Nat.gcd_comm x y]
  by_cases g : ¬ c = 0
  · rw [if_pos g] at h ⊢
    have h : r = jDiv (y : Int) ((Nat.gcd y x : Nat) : Int) := h
    rw [h, jDiv_e ⟨by omega, by omega⟩ ⟨by omega, by omega⟩, Int.natCast_ediv]
  · rw [if_neg g] at h ⊢
    have h : r = jDiv (x : Int) ((Nat.gcd y x : Nat) : Int) := h
    rw [h, jDiv_e ⟨by omega, by omega⟩ ⟨by omega, by omega⟩, Int.natCast_ediv]
theorem q_part {x y : Nat} {c r : Int} (hx : x ≤ 9223372036854775807) (hy : 0 < y ∧ y ≤ 9223372036854775807) (h : f_s_part (x : Int) (y : Int) c r) : r = if ¬ c = 0 then ((y / Nat.gcd x y : Nat) : Int) else ((x / Nat.gcd x y : Nat) : Int) := by
  unfold f_s_part at h
  obtain ⟨bX, hbX, h9⟩ := lop3_g h
  have key : ∀ (n k a b : Nat), k ≤ 200 → a ≤ 9223372036854775807 → (0 < b ∧ b ≤ 9223372036854775807) → Nat.gcd a b = Nat.gcd x y → (k = 0 ∨ (a < b ∧ a * b * 2 ^ k ≤ 2 ^ 127)) → lop3 n bX (k : Int) (a : Int) (b : Int) r → r = if ¬ c = 0 then ((y / Nat.gcd x y : Nat) : Int) else ((x / Nat.gcd x y : Nat) : Int) := by
    intro n
    induction n with
    | zero => intro k a b _ _ _ _ _ h; exact False.elim h
    | succ n ih =>
      intro k a b hk ha hb hg hp h
      rw [lop3_s hbX] at h
      have h := jnk_d h
      have fin : a = 0 → (if ¬ lcI (b : Int) 0 = 0 then (if ¬ c = 0 then rdb (jDiv (y : Int) (b : Int)) fun z102 => rtn z102 else rdb (jDiv (x : Int) (b : Int)) fun z103 => rtn z103) else rtn ((-1))) r → r = if ¬ c = 0 then ((y / Nat.gcd x y : Nat) : Int) else ((x / Nat.gcd x y : Nat) : Int) := fun e h => by
        rw [if_pos (fun hh => by have := (lc0 _).mp hh; omega)] at h
        have eb : b = Nat.gcd x y := by rw [← hg, e, Nat.gcd_zero_left]
        by_cases g : ¬ c = 0
        · rw [if_pos g] at h ⊢
          have h : r = jDiv (y : Int) (b : Int) := h
          rw [h, jDiv_e ⟨by omega, by omega⟩ ⟨by omega, by omega⟩, Int.natCast_ediv, eb]
        · rw [if_neg g] at h ⊢
          have h : r = jDiv (x : Int) (b : Int) := h
          rw [h, jDiv_e ⟨by omega, by omega⟩ ⟨by omega, by omega⟩, Int.natCast_ediv, eb]
      by_cases g2 : (200 : Int) ≤ k
      · rw [if_pos g2] at h
        refine fin ?_ h
        have k2 : k = 200 := by omega
        rcases hp with hp | ⟨-, hp⟩
        · omega
        · rcases Nat.eq_zero_or_pos a with e | e
          · exact e
          · exfalso
            rw [k2] at hp
            have h1 : 1 ≤ a * b := Nat.mul_pos e hb.1
            have h2 : 1 * 2 ^ 200 ≤ a * b * 2 ^ 200 := Nat.mul_le_mul_right _ h1
            have h3 : (2 : Nat) ^ 127 < 1 * 2 ^ 200 := by decide
            omega
      · rw [if_neg g2] at h
        by_cases g : lcI (a : Int) 0 = 0
        · rw [if_pos g] at h
          have g := (lc0 _).mp g
          exact fin (by omega) h
        · rw [if_neg g] at h
          have ga : 0 < a := by
            rcases Nat.eq_zero_or_pos a with e | e
            · exact absurd ((lc0 _).mpr (by omega)) g
            · exact e
          obtain ⟨z, ez, h⟩ := rdb_g h
          rw [jRem_e ⟨by omega, by omega⟩ ⟨by omega, by omega⟩, ← Int.natCast_emod] at ez
          rw [← ez] at h
          have hm := Nat.mod_lt b ga
          refine ih (k + 1) (b % a) a (by omega) (by omega) ⟨ga, ha⟩ ((Nat.gcd_rec a b).symm.trans hg) (Or.inr ⟨hm, ?_⟩) (by rw [Int.natCast_add]; exact h)
          rcases hp with hp | ⟨hab, hp⟩
          · rw [hp]
            have h1 : b % a * a ≤ 9223372036854775807 * 9223372036854775807 := Nat.mul_le_mul (by omega) ha
            have h2 : b % a * a * 2 ^ (0 + 1) ≤ 9223372036854775807 * 9223372036854775807 * 2 ^ (0 + 1) := Nat.mul_le_mul_right _ h1
            exact Nat.le_trans h2 (by decide)
          · have h0 : 1 ≤ b / a := Nat.div_pos (Nat.le_of_lt hab) ga
            have h1 : a * 1 ≤ a * (b / a) := Nat.mul_le_mul_left _ h0
            have h2 := Nat.mod_add_div b a
            have h3 : b % a * 2 ≤ b := by omega
            have h4 : b % a * 2 * (a * 2 ^ k) ≤ b * (a * 2 ^ k) := Nat.mul_le_mul_right _ h3
            have e1 : b % a * a * 2 ^ (k + 1) = b % a * 2 * (a * 2 ^ k) := by
              rw [Nat.pow_succ, Nat.mul_assoc, Nat.mul_assoc, Nat.mul_left_comm 2 a, Nat.mul_comm 2 (2 ^ k)]
            have e2 : b * (a * 2 ^ k) = a * b * 2 ^ k := by rw [← Nat.mul_assoc, Nat.mul_comm b a]
            rw [e1]
            rw [e2] at h4
            exact Nat.le_trans h4 hp
  exact key _ 0 x y (by omega) hx hy rfl (Or.inl rfl) h9
theorem e_part {x y c a b : Int} (hx : 0 ≤ x ∧ x ≤ 9223372036854775807) (hy : 0 < y ∧ y ≤ 9223372036854775807) (h : f_s_part x y c a) (k : f_m_through x y c b) : a = b := by
  obtain ⟨n, rfl⟩ : ∃ n : Nat, x = (n : Int) := ⟨x.toNat, by omega⟩
  obtain ⟨m, rfl⟩ : ∃ m : Nat, y = (m : Int) := ⟨y.toNat, by omega⟩
  rw [q_part (by omega) ⟨by omega, by omega⟩ h, q_through (by omega) ⟨by omega, by omega⟩ k]
