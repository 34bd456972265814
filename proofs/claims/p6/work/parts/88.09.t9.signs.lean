-- reading: signs, on both sides (own work)
/-- places and the tape's bytes are the same -/
def PP (V W : Nat → Nat → Int) : Prop := V 72 2 = W 0 5 ∧ V 72 3 = W 0 6 ∧ (0 ≤ W 0 5 ∧ W 0 5 ≤ W 0 6 ∧ W 0 6 ≤ 200 ∧ W 0 6 ≤ V 58 1) ∧ ∀ k : Nat, (k : Int) < W 0 6 → V 59 k = iAnd (W 4 k) 255
/-- the sign that is read next; -1 at the end -/
def sgnZ (W : Nat → Nat → Int) : Int := if W 0 6 ≤ W 0 5 then -1 else iAnd (W 4 (W 0 5).toNat) 255
theorem sgn_r (W : Nat → Nat → Int) : -1 ≤ sgnZ W ∧ sgnZ W ≤ 255 := by
  unfold sgnZ
  split
  · omega
  · have := iAnd_leB (W 4 (W 0 5).toNat) (q := 255) (B := 255) (by decide)
    omega
theorem sgn_lt {W : Nat → Nat → Int} (h : 0 ≤ sgnZ W) : W 0 5 < W 0 6 := by
  unfold sgnZ at h
  split at h <;> omega
theorem q_here {r : Int} {W J : Nat → Nat → Int} {R : Nat → Nat → Nat} (h : f_m_here W J R r) : r = sgnZ W := by
  simp only [f_m_here, rdb] at h
  obtain ⟨-, -, h⟩ := h
  unfold sgnZ
  by_cases g : W 0 6 ≤ W 0 5
  · rw [if_pos g] at h ⊢; exact h
  · rw [if_neg g] at h ⊢
    obtain ⟨-, -, h⟩ := h
    exact h
theorem q_at {x r : Int} {V J : Nat → Nat → Int} {R : Nat → Nat → Nat} (h : f_s_at x V J R r) (hx : 0 ≤ x ∧ x < V 58 1) : r = V 59 x.toNat := by
  simp only [f_s_at, rdb] at h
  rw [if_neg (by omega)] at h
  obtain ⟨-, h⟩ := h
  rw [if_neg (by omega)] at h
  exact h
theorem q_peek {r : Int} {V W J : Nat → Nat → Int} {R : Nat → Nat → Nat} (hP : PP V W) (h : f_r_peek V J R r) : r = sgnZ W := by
  obtain ⟨p1, p2, p3, p4⟩ := hP
  simp only [f_r_peek, rdb] at h
  unfold sgnZ
  rw [p1, p2] at h
  by_cases g : W 0 6 ≤ W 0 5
  · rw [if_pos g] at h ⊢; exact h
  · rw [if_neg g] at h ⊢
    obtain ⟨z, hz, h⟩ := h
    have h : r = z := h
    rw [h, q_at hz ⟨by omega, by omega⟩, p4 _ (by omega)]
/-- a fault: its number and its place -/
theorem q_fail {x a : Int} {V J U : Nat → Nat → Int} {R : Nat → Nat → Nat} (h : f_r_fail x V J R (a, U)) (hx : 0 ≤ x ∧ x ≤ 9) (h2 : 0 ≤ V 72 2 ∧ V 72 2 ≤ 220) : a = 0 ∧ U = up2 V 72 5 (-1000 * x - V 72 2) := by
  simp only [f_r_fail, rdb, rtn, Prod.mk.injEq] at h
  rw [wr_id (z := -1000 * x) ⟨by omega, by omega⟩, wr_id ⟨by omega, by omega⟩] at h
  exact h
theorem q_wrong {x y b : Int} {W J X : Nat → Nat → Int} {R : Nat → Nat → Nat} (h : f_m_wrongAt x y W J R (b, X)) (hx : 0 ≤ x ∧ x ≤ 9) (h2 : 0 ≤ y ∧ y ≤ 220) : b = 0 ∧ X = up2 W 0 7 (-1000 * x - y) := by
  simp only [f_m_wrongAt, rdb, rtn, Prod.mk.injEq] at h
  rw [wr_id (z := -1000 * x) ⟨by omega, by omega⟩, wr_id ⟨by omega, by omega⟩] at h
  exact h
theorem q_takes {c b : Int} {W J X : Nat → Nat → Int} {R : Nat → Nat → Nat} (h : f_m_takes c W J R (b, X)) : (sgnZ W = c ∧ b = 1 ∧ X = up2 W 0 5 (W 0 5 + 1)) ∨ (¬ sgnZ W = c ∧ b = 0 ∧ X = up2 W 0 7 (-1000 - W 0 5)) := by
  simp only [f_m_takes, rdb] at h
  obtain ⟨hp, -, z, hz, -, h⟩ := h
  have hz := q_here hz
  subst hz
  by_cases g : sgnZ W = c
  · rw [if_pos g] at h
    simp only [rtn, Prod.mk.injEq] at h
    exact Or.inl ⟨g, h.1, h.2⟩
  · rw [if_neg g] at h
    obtain ⟨y, Y, hy, -, -, h⟩ := h
    simp only [rtn, Prod.mk.injEq] at h
    obtain ⟨k1, k2⟩ := q_wrong hy (by decide) hp
    refine Or.inr ⟨g, h.1.trans k1, ?_⟩
    rw [h.2, k2]
    congr 1
theorem q_sign {c a : Int} {V W J U : Nat → Nat → Int} {R : Nat → Nat → Nat} (hP : PP V W) (h : f_r_sign c V J R (a, U)) : (sgnZ W = c ∧ a = 1 ∧ U = up2 V 72 2 (W 0 5 + 1)) ∨ (¬ sgnZ W = c ∧ a = 0 ∧ U = up2 V 72 5 (-1000 - W 0 5)) := by
  simp only [f_r_sign, rdb] at h
  obtain ⟨z, hz, h⟩ := h
  have hz := q_peek hP hz
  subst hz
  obtain ⟨p1, p2, p3, p4⟩ := hP
  by_cases g : sgnZ W = c
  · rw [if_pos g, p1, wr_id ⟨by omega, by omega⟩] at h
    simp only [rtn, Prod.mk.injEq] at h
    exact Or.inl ⟨g, h.1, h.2⟩
  · rw [if_neg g] at h
    obtain ⟨y, Y, hy, -, -, h⟩ := h
    simp only [rtn, Prod.mk.injEq] at h
    obtain ⟨k1, k2⟩ := q_fail hy (by decide) (by omega)
    refine Or.inr ⟨g, h.1.trans k1, ?_⟩
    rw [h.2, k2, p1]
    congr 1
theorem iShl_4 : ∀ x : Nat, x < 100000 → iShl (x : Int) 4 = ((16 * x : Nat) : Int) := by
  intro x hx
  have e : iShl (x : Int) 4 = ((Int32.ofInt (x : Int)).toBitVec <<< ((Int32.ofInt 4 &&& 31).toBitVec.smod 32)).toInt := rfl
  have e2 : (Int32.ofInt (x : Int)).toBitVec.toNat = x := by
    have h3 : (Int32.ofInt (x : Int)).toBitVec.toInt = x := xi_toInt (a := (x : Int)) ⟨by omega, by omega⟩
    rw [BitVec.toInt_eq_toNat_cond] at h3
    have h4 := (Int32.ofInt (x : Int)).toBitVec.isLt
    split at h3 <;> omega
  rw [e, BitVec.shiftLeft_eq', BitVec.toInt_shiftLeft, show ((Int32.ofInt 4 &&& 31).toBitVec.smod 32).toNat = 4 by decide, e2, Nat.shiftLeft_eq]
  rw [Int.bmod_eq_of_le (by omega) (by omega)]
  omega
theorem iOr_n {a b : Nat} (ha : a < 2147483648) (hb : b < 2147483648) : iOr (a : Int) (b : Int) = ((a ||| b : Nat) : Int) := by
  have e : ∀ q : Nat, q < 2147483648 → (Int32.ofInt (q : Int)).toBitVec.toNat = q := fun q hq => by
    have h3 : (Int32.ofInt (q : Int)).toBitVec.toInt = q := xi_toInt (a := (q : Int)) ⟨by omega, by omega⟩
    rw [BitVec.toInt_eq_toNat_cond] at h3
    have h4 := (Int32.ofInt (q : Int)).toBitVec.isLt
    split at h3 <;> omega
  have e2 : (Int32.ofInt (a : Int) ||| Int32.ofInt (b : Int)).toBitVec.toNat = a ||| b := by
    rw [Int32.toBitVec_or, BitVec.toNat_or, e a ha, e b hb]
  have h5 : a ||| b < 2 ^ 31 := Nat.or_lt_two_pow (by omega) (by omega)
  show (Int32.ofInt (a : Int) ||| Int32.ofInt (b : Int)).toBitVec.toInt = _
  rw [BitVec.toInt_eq_toNat_cond, if_pos (by omega), e2]
/-- a step of the first side: its kind, and sixteen times its worth -/
theorem stp_or {op v : Int} (ho : 0 ≤ op ∧ op ≤ 12) (hv : 0 ≤ v ∧ v < 100000) : iOr op (iShl v 4) = op + 16 * v := by
  obtain ⟨o, rfl⟩ : ∃ o : Nat, op = o := ⟨op.toNat, by omega⟩
  obtain ⟨x, rfl⟩ : ∃ x : Nat, v = x := ⟨v.toNat, by omega⟩
  rw [iShl_4 x (by omega), iOr_n (by omega) (by omega)]
  have h : 16 * x ||| o = 2 ^ 4 * x + o := by
    rw [show 16 * x = 2 ^ 4 * x from rfl]
    exact (Nat.two_pow_add_eq_or_of_lt (by omega) x).symm
  rw [Nat.or_comm, h]
  omega
theorem q_put {t : Nat} {op v : Int} {V J U : Nat → Nat → Int} {R : Nat → Nat → Nat} (h : f_r_put t op v V J R U) (ho : 0 ≤ op ∧ op ≤ 12) (hv : 0 ≤ v ∧ v < 100000) (hl : 0 ≤ V t 1 ∧ V t 1 < 200) : U = up2 (up2 V (t + 1) (V t 1).toNat (op + 16 * v)) t 1 (V t 1 + 1) := by
  simp only [f_r_put, rdb] at h
  obtain ⟨-, h⟩ := h
  rw [if_neg (by omega), stp_or ho hv] at h
  exact h
theorem q_notes {op v : Int} {W J X : Nat → Nat → Int} {R : Nat → Nat → Nat} (h : f_m_notes op v W J R X) : X = up2 (up2 W 5 (W 0 10).toNat (1048576 * op + v)) 0 10 (W 0 10 + 1) := by
  simp only [f_m_notes, rdb] at h
  obtain ⟨-, h⟩ := h
  exact h
theorem q_stepOf {x r : Int} (h : f_r_stepOf x r) : (x = 43 ∧ r = 2) ∨ (x = 45 ∧ r = 3) ∨ (x = 42 ∧ r = 4) ∨ (x = 47 ∧ r = 5) ∨ (x = 37 ∧ r = 6) ∨ (x = 60 ∧ r = 7) ∨ (x = 62 ∧ r = 8) ∨ (x = 61 ∧ r = 9) ∨ (r = -1 ∧ ¬ x = 43 ∧ ¬ x = 45 ∧ ¬ x = 42 ∧ ¬ x = 47 ∧ ¬ x = 37 ∧ ¬ x = 60 ∧ ¬ x = 62 ∧ ¬ x = 61) := by
  unfold f_r_stepOf at h
  by_cases g37 : x = 37
  · rw [if_pos g37] at h; have h : r = 6 := h; omega
  rw [if_neg g37] at h
  by_cases g38 : x = 38
  · rw [if_pos g38] at h; have h : r = -1 := h; omega
  rw [if_neg g38] at h
  by_cases g39 : x = 39
  · rw [if_pos g39] at h; have h : r = -1 := h; omega
  rw [if_neg g39] at h
  by_cases g40 : x = 40
  · rw [if_pos g40] at h; have h : r = -1 := h; omega
  rw [if_neg g40] at h
  by_cases g41 : x = 41
  · rw [if_pos g41] at h; have h : r = -1 := h; omega
  rw [if_neg g41] at h
  by_cases g42 : x = 42
  · rw [if_pos g42] at h; have h : r = 4 := h; omega
  rw [if_neg g42] at h
  by_cases g43 : x = 43
  · rw [if_pos g43] at h; have h : r = 2 := h; omega
  rw [if_neg g43] at h
  by_cases g44 : x = 44
  · rw [if_pos g44] at h; have h : r = -1 := h; omega
  rw [if_neg g44] at h
  by_cases g45 : x = 45
  · rw [if_pos g45] at h; have h : r = 3 := h; omega
  rw [if_neg g45] at h
  by_cases g46 : x = 46
  · rw [if_pos g46] at h; have h : r = -1 := h; omega
  rw [if_neg g46] at h
  by_cases g47 : x = 47
  · rw [if_pos g47] at h; have h : r = 5 := h; omega
  rw [if_neg g47] at h
  by_cases g48 : x = 48
  · rw [if_pos g48] at h; have h : r = -1 := h; omega
  rw [if_neg g48] at h
  by_cases g49 : x = 49
  · rw [if_pos g49] at h; have h : r = -1 := h; omega
  rw [if_neg g49] at h
  by_cases g50 : x = 50
  · rw [if_pos g50] at h; have h : r = -1 := h; omega
  rw [if_neg g50] at h
  by_cases g51 : x = 51
  · rw [if_pos g51] at h; have h : r = -1 := h; omega
  rw [if_neg g51] at h
  by_cases g52 : x = 52
  · rw [if_pos g52] at h; have h : r = -1 := h; omega
  rw [if_neg g52] at h
  by_cases g53 : x = 53
  · rw [if_pos g53] at h; have h : r = -1 := h; omega
  rw [if_neg g53] at h
  by_cases g54 : x = 54
  · rw [if_pos g54] at h; have h : r = -1 := h; omega
  rw [if_neg g54] at h
  by_cases g55 : x = 55
  · rw [if_pos g55] at h; have h : r = -1 := h; omega
  rw [if_neg g55] at h
  by_cases g56 : x = 56
  · rw [if_pos g56] at h; have h : r = -1 := h; omega
  rw [if_neg g56] at h
  by_cases g57 : x = 57
  · rw [if_pos g57] at h; have h : r = -1 := h; omega
  rw [if_neg g57] at h
  by_cases g58 : x = 58
  · rw [if_pos g58] at h; have h : r = -1 := h; omega
  rw [if_neg g58] at h
  by_cases g59 : x = 59
  · rw [if_pos g59] at h; have h : r = -1 := h; omega
  rw [if_neg g59] at h
  by_cases g60 : x = 60
  · rw [if_pos g60] at h; have h : r = 7 := h; omega
  rw [if_neg g60] at h
  by_cases g61 : x = 61
  · rw [if_pos g61] at h; have h : r = 9 := h; omega
  rw [if_neg g61] at h
  by_cases g62 : x = 62
  · rw [if_pos g62] at h; have h : r = 8 := h; omega
  rw [if_neg g62] at h
  have h : r = -1 := h
  omega
theorem q_sumSign {x r : Int} (h : f_m_sumSign x r) : (x = 43 ∧ r = 2) ∨ (x = 45 ∧ r = 3) ∨ (x = 42 ∧ r = 4) ∨ (x = 47 ∧ r = 5) ∨ (x = 37 ∧ r = 6) ∨ (r = -1 ∧ ¬ x = 43 ∧ ¬ x = 45 ∧ ¬ x = 42 ∧ ¬ x = 47 ∧ ¬ x = 37) := by
  simp only [f_m_sumSign, rtn, if_r] at h
  omega
/-- the letters: the reference's number, the sign -/
def ltr (z c : Int) : Prop := (z = 0 ∧ c = 100) ∨ (z = 1 ∧ c = 119) ∨ (z = 2 ∧ c = 108) ∨ (z = 3 ∧ c = 111) ∨ (z = 4 ∧ c = 102) ∨ (z = 5 ∧ c = 115) ∨ (z = 6 ∧ c = 121) ∨ (z = 7 ∧ c = 122) ∨ (z = 8 ∧ c = 112) ∨ (z = 9 ∧ c = 116) ∨ (z = 10 ∧ c = 110) ∨ (z = 11 ∧ c = 97) ∨ (z = 12 ∧ c = 113)
def isL (c : Int) : Prop := c = 100 ∨ c = 119 ∨ c = 108 ∨ c = 111 ∨ c = 102 ∨ c = 115 ∨ c = 121 ∨ c = 122 ∨ c = 112 ∨ c = 116 ∨ c = 110 ∨ c = 97 ∨ c = 113
theorem q_factOf {x r : Int} (h : f_m_factOf x r) : (ltr r x ∧ isL x) ∨ (r = -1 ∧ ¬ isL x) := by
  unfold f_m_factOf at h
  by_cases g97 : x = 97
  · rw [if_pos g97] at h; have h : r = 11 := h; subst h; subst g97; exact Or.inl ⟨by unfold ltr; decide, by unfold isL; decide⟩
  rw [if_neg g97] at h
  by_cases g98 : x = 98
  · rw [if_pos g98] at h; have h : r = -1 := h; subst g98; exact Or.inr ⟨h, by unfold isL; decide⟩
  rw [if_neg g98] at h
  by_cases g99 : x = 99
  · rw [if_pos g99] at h; have h : r = -1 := h; subst g99; exact Or.inr ⟨h, by unfold isL; decide⟩
  rw [if_neg g99] at h
  by_cases g100 : x = 100
  · rw [if_pos g100] at h; have h : r = 0 := h; subst h; subst g100; exact Or.inl ⟨by unfold ltr; decide, by unfold isL; decide⟩
  rw [if_neg g100] at h
  by_cases g101 : x = 101
  · rw [if_pos g101] at h; have h : r = -1 := h; subst g101; exact Or.inr ⟨h, by unfold isL; decide⟩
  rw [if_neg g101] at h
  by_cases g102 : x = 102
  · rw [if_pos g102] at h; have h : r = 4 := h; subst h; subst g102; exact Or.inl ⟨by unfold ltr; decide, by unfold isL; decide⟩
  rw [if_neg g102] at h
  by_cases g103 : x = 103
  · rw [if_pos g103] at h; have h : r = -1 := h; subst g103; exact Or.inr ⟨h, by unfold isL; decide⟩
  rw [if_neg g103] at h
  by_cases g104 : x = 104
  · rw [if_pos g104] at h; have h : r = -1 := h; subst g104; exact Or.inr ⟨h, by unfold isL; decide⟩
  rw [if_neg g104] at h
  by_cases g105 : x = 105
  · rw [if_pos g105] at h; have h : r = -1 := h; subst g105; exact Or.inr ⟨h, by unfold isL; decide⟩
  rw [if_neg g105] at h
  by_cases g106 : x = 106
  · rw [if_pos g106] at h; have h : r = -1 := h; subst g106; exact Or.inr ⟨h, by unfold isL; decide⟩
  rw [if_neg g106] at h
  by_cases g107 : x = 107
  · rw [if_pos g107] at h; have h : r = -1 := h; subst g107; exact Or.inr ⟨h, by unfold isL; decide⟩
  rw [if_neg g107] at h
  by_cases g108 : x = 108
  · rw [if_pos g108] at h; have h : r = 2 := h; subst h; subst g108; exact Or.inl ⟨by unfold ltr; decide, by unfold isL; decide⟩
  rw [if_neg g108] at h
  by_cases g109 : x = 109
  · rw [if_pos g109] at h; have h : r = -1 := h; subst g109; exact Or.inr ⟨h, by unfold isL; decide⟩
  rw [if_neg g109] at h
  by_cases g110 : x = 110
  · rw [if_pos g110] at h; have h : r = 10 := h; subst h; subst g110; exact Or.inl ⟨by unfold ltr; decide, by unfold isL; decide⟩
  rw [if_neg g110] at h
  by_cases g111 : x = 111
  · rw [if_pos g111] at h; have h : r = 3 := h; subst h; subst g111; exact Or.inl ⟨by unfold ltr; decide, by unfold isL; decide⟩
  rw [if_neg g111] at h
  by_cases g112 : x = 112
  · rw [if_pos g112] at h; have h : r = 8 := h; subst h; subst g112; exact Or.inl ⟨by unfold ltr; decide, by unfold isL; decide⟩
  rw [if_neg g112] at h
  by_cases g113 : x = 113
  · rw [if_pos g113] at h; have h : r = 12 := h; subst h; subst g113; exact Or.inl ⟨by unfold ltr; decide, by unfold isL; decide⟩
  rw [if_neg g113] at h
  by_cases g114 : x = 114
  · rw [if_pos g114] at h; have h : r = -1 := h; subst g114; exact Or.inr ⟨h, by unfold isL; decide⟩
  rw [if_neg g114] at h
  by_cases g115 : x = 115
  · rw [if_pos g115] at h; have h : r = 5 := h; subst h; subst g115; exact Or.inl ⟨by unfold ltr; decide, by unfold isL; decide⟩
  rw [if_neg g115] at h
  by_cases g116 : x = 116
  · rw [if_pos g116] at h; have h : r = 9 := h; subst h; subst g116; exact Or.inl ⟨by unfold ltr; decide, by unfold isL; decide⟩
  rw [if_neg g116] at h
  by_cases g117 : x = 117
  · rw [if_pos g117] at h; have h : r = -1 := h; subst g117; exact Or.inr ⟨h, by unfold isL; decide⟩
  rw [if_neg g117] at h
  by_cases g118 : x = 118
  · rw [if_pos g118] at h; have h : r = -1 := h; subst g118; exact Or.inr ⟨h, by unfold isL; decide⟩
  rw [if_neg g118] at h
  by_cases g119 : x = 119
  · rw [if_pos g119] at h; have h : r = 1 := h; subst h; subst g119; exact Or.inl ⟨by unfold ltr; decide, by unfold isL; decide⟩
  rw [if_neg g119] at h
  by_cases g120 : x = 120
  · rw [if_pos g120] at h; have h : r = -1 := h; subst g120; exact Or.inr ⟨h, by unfold isL; decide⟩
  rw [if_neg g120] at h
  by_cases g121 : x = 121
  · rw [if_pos g121] at h; have h : r = 6 := h; subst h; subst g121; exact Or.inl ⟨by unfold ltr; decide, by unfold isL; decide⟩
  rw [if_neg g121] at h
  by_cases g122 : x = 122
  · rw [if_pos g122] at h; have h : r = 7 := h; subst h; subst g122; exact Or.inl ⟨by unfold ltr; decide, by unfold isL; decide⟩
  rw [if_neg g122] at h
  have h : r = -1 := h
  refine Or.inr ⟨h, fun hl => ?_⟩
  unfold isL at hl
  rcases hl with e | e | e | e | e | e | e | e | e | e | e | e | e
  · exact g100 e
  · exact g119 e
  · exact g108 e
  · exact g111 e
  · exact g102 e
  · exact g115 e
  · exact g121 e
  · exact g122 e
  · exact g112 e
  · exact g116 e
  · exact g110 e
  · exact g97 e
  · exact g113 e
theorem ltr_fc {z c : Int} (h : ltr z c) : (0 ≤ z ∧ z ≤ 12) ∧ c - 97 = ((fc z.toNat : Nat) : Int) := by
  unfold ltr at h
  rcases h with ⟨rfl, rfl⟩ | ⟨rfl, rfl⟩ | ⟨rfl, rfl⟩ | ⟨rfl, rfl⟩ | ⟨rfl, rfl⟩ | ⟨rfl, rfl⟩ | ⟨rfl, rfl⟩ | ⟨rfl, rfl⟩ | ⟨rfl, rfl⟩ | ⟨rfl, rfl⟩ | ⟨rfl, rfl⟩ | ⟨rfl, rfl⟩ | ⟨rfl, rfl⟩ <;> decide
theorem iB_c : ∀ c : Nat, c < 256 → iB (c : Int) = if c < 128 then (c : Int) else (c : Int) - 256 := by decide +kernel
theorem iC_c {c : Int} (h : 0 ≤ c ∧ c ≤ 255) : iC c = c := by
  have e : ∀ c : Nat, c < 256 → iC (c : Int) = c := by decide +kernel
  obtain ⟨n, rfl⟩ : ∃ n : Nat, c = n := ⟨c.toNat, by omega⟩
  exact e n (by omega)
theorem q_indexOf {k : Nat} {c r : Int} (hk : k < 3) (hc : 0 ≤ c ∧ c ≤ 255) (h : f_j_indexOf k c r) : (0 ≤ r ∧ ∃ j : Nat, j < zLen.getD k 0 ∧ zsb k j = c) ∨ (r = -1 ∧ ∀ j : Nat, j < zLen.getD k 0 → ¬ zsb k j = c) := by
  have hl : 1 ≤ zsl k ∧ zsl k ≤ 13 := by
    rcases (show k = 0 ∨ k = 1 ∨ k = 2 by omega) with rfl | rfl | rfl <;> decide
  have hpos : ∀ j : Nat, j < zLen.getD k 0 → 0 ≤ zsb k j ∧ zsb k j ≤ 127 := by
    have e : ∀ k : Nat, k < 3 → ∀ j : Nat, j < zLen.getD k 0 → 0 ≤ zsb k j ∧ zsb k j ≤ 127 := by decide +kernel
    exact e k hk
  have hB : ∀ j : Nat, j < zLen.getD k 0 → (zsb k j = iB c ↔ zsb k j = c) := fun j hj => by
    have h1 := hpos j hj
    have h2 := iB_c c.toNat (by omega)
    rw [Int.toNat_of_nonneg hc.1] at h2
    split at h2 <;> omega
  simp only [f_j_indexOf, f_j_indexOf2, f_j_isLatin1, f_j_length, f_j_coder, calR, rtn] at h
  obtain ⟨r2, ⟨z1, rfl, -, z2, hz2, z3, hz3, rfl⟩, rfl⟩ := h
  obtain ⟨z0, rfl, -, hz2⟩ := hz2
  have hz2 : z2 = iShr (zsl k) 0 := hz2
  have e0 : iShr (zsl k) 0 = zsl k := by
    rcases (show k = 0 ∨ k = 1 ∨ k = 2 by omega) with rfl | rfl | rfl <;> decide
  rw [e0] at hz2
  subst hz2
  simp only [f_j_indexOfL, rdb] at hz3
  obtain ⟨y, hy, -, hz3⟩ := hz3
  have hy1 : y = 1 := by
    simp only [f_j_canEncode, rtn, if_r] at hy
    omega
  rw [if_pos (by omega)] at hz3
  obtain ⟨-, -, hz3⟩ := hz3
  rw [if_pos (by omega)] at hz3
  obtain ⟨q, hq, hz3⟩ := hz3
  have hz3 : r = q := hz3
  subst hz3
  simp only [f_j_indexOfChar, rdb] at hq
  obtain ⟨-, hq⟩ := hq
  obtain ⟨b, hb, hq⟩ := lop1_g hq
  have hlen : min (zsl k) (zsl k) = ((zLen.getD k 0 : Nat) : Int) := by
    rw [Int.min_self]; rfl
  rw [hlen] at hb
  have key : ∀ (n j : Nat), j ≤ zLen.getD k 0 → (∀ i : Nat, i < j → ¬ zsb k i = c) → lop1 n b (j : Int) r → (0 ≤ r ∧ ∃ j : Nat, j < zLen.getD k 0 ∧ zsb k j = c) ∨ (r = -1 ∧ ∀ j : Nat, j < zLen.getD k 0 → ¬ zsb k j = c) := by
    intro n
    induction n with
    | zero => intro j _ _ h; exact False.elim h
    | succ n ih =>
      intro j hj hn h
      rw [lop1_s hb] at h
      by_cases g : ((zLen.getD k 0 : Nat) : Int) ≤ j
      · rw [if_pos g] at h
        exact Or.inr ⟨h, fun i hi => hn i (by omega)⟩
      · rw [if_neg g] at h
        by_cases g2 : zsb k j = iB c
        · rw [if_neg (fun hh => hh g2)] at h
          have h : r = j := h
          exact Or.inl ⟨by omega, j, by omega, (hB j (by omega)).mp g2⟩
        · rw [if_pos g2] at h
          refine ih (j + 1) (by omega) (fun i hi => ?_) (by rw [Int.natCast_add]; exact h)
          by_cases e : i = j
          · subst e
            exact fun hh => g2 ((hB i (by omega)).mpr hh)
          · exact hn i (by omega)
  exact key _ 0 (by omega) (fun i hi => by omega) hq
theorem q_letters {c r : Int} (hc : 0 ≤ c ∧ c ≤ 255) (h : f_j_indexOf 1 c r) : (0 ≤ r ∧ isL c) ∨ (r = -1 ∧ ¬ isL c) := by
  rcases q_indexOf (by decide) hc h with ⟨h1, j, hj, h2⟩ | ⟨h1, h2⟩
  · refine Or.inl ⟨h1, ?_⟩
    have hj : j < 13 := hj
    unfold isL
    rcases (show j = 0 ∨ j = 1 ∨ j = 2 ∨ j = 3 ∨ j = 4 ∨ j = 5 ∨ j = 6 ∨ j = 7 ∨ j = 8 ∨ j = 9 ∨ j = 10 ∨ j = 11 ∨ j = 12 by omega) with rfl | rfl | rfl | rfl | rfl | rfl | rfl | rfl | rfl | rfl | rfl | rfl | rfl <;> subst h2 <;> decide
  · refine Or.inr ⟨h1, fun hl => ?_⟩
    unfold isL at hl
    rcases hl with rfl | rfl | rfl | rfl | rfl | rfl | rfl | rfl | rfl | rfl | rfl | rfl | rfl
    · exact h2 0 (by decide) (by decide)
    · exact h2 1 (by decide) (by decide)
    · exact h2 2 (by decide) (by decide)
    · exact h2 3 (by decide) (by decide)
    · exact h2 4 (by decide) (by decide)
    · exact h2 5 (by decide) (by decide)
    · exact h2 6 (by decide) (by decide)
    · exact h2 7 (by decide) (by decide)
    · exact h2 8 (by decide) (by decide)
    · exact h2 9 (by decide) (by decide)
    · exact h2 10 (by decide) (by decide)
    · exact h2 11 (by decide) (by decide)
    · exact h2 12 (by decide) (by decide)
