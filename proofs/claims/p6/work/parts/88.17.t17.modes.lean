-- reading: conditions, how the reference goes on (own work)
def enB (J : Nat → Nat → Int) (Rr : Nat → Nat → Nat) : ((Nat → Nat → Int) → (Nat → Nat → Int) → Prop) → (Nat → Nat → Int) → (Nat → Nat → Int) → Prop :=
  (fun rc23 (V23 : Nat → Nat → Int) => rdb (V23 0 5) fun z24 => fct (0 ≤ z24 ∧ z24 ≤ 220) <| rdb (V23 0 6) fun z25 => fct (0 ≤ z25 ∧ z25 ≤ 220) <| rdb (V23 0 10) fun z26 => fct (0 ≤ z26 ∧ z26 ≤ 220) <| rdb (V23 0 11) fun z27 => fct (0 ≤ z27 ∧ z27 ≤ 220) <| calR (f_m_waitTop V23 J Rr) fun z28 => (if ¬ z28 = 10 then rtn V23 else calUM 590295810358705652736 V23 (f_m_notes 10 0 V23 J Rr) fun V30 => rdb (up2 V30 0 11 (z27 - 1)) fun V31 => rdb (V31 0 9) fun z32 => rdb (wr (z32 - 1)) fun z33 => rdb (up2 V31 0 9 z33) fun V34 => rc23 V34))
def laB (x1 : Int) (J : Nat → Nat → Int) (Rr : Nat → Nat → Nat) : ((Nat → Nat → Int) → (Nat → Nat → Int) → Prop) → (Nat → Nat → Int) → (Nat → Nat → Int) → Prop :=
  (fun rc47 (V47 : Nat → Nat → Int) => rdb (V47 0 5) fun z48 => fct (0 ≤ z48 ∧ z48 ≤ 220) <| rdb (V47 0 6) fun z49 => fct (0 ≤ z49 ∧ z49 ≤ 220) <| rdb (V47 0 10) fun z50 => fct (0 ≤ z50 ∧ z50 ≤ 220) <| rdb (V47 0 11) fun z51 => fct (0 ≤ z51 ∧ z51 ≤ 220) <| calR (f_m_waitTop V47 J Rr) fun z52 => (if z52 = 11 then rdb (V47 6 ((z51 - 1).toNat)) fun z54 => rdb (iRem z54 1048576) fun z55 => fct (-1048575 ≤ z55 ∧ z55 ≤ 1048575) <| rdb (V47 5 z55.toNat) fun z57 => rdb (iDiv z57 1048576) fun z58 => rdb (up2 V47 5 z55.toNat (1048576 * z58 + z50)) fun V59 => rdb (up2 V59 0 11 (z51 - 1)) fun V60 => rc47 V60 else (if x1 = 0 then rtn V47 else calR (f_m_waitTop V47 J Rr) fun z62 => (if ¬ z62 = 12 then rtn V47 else rdb (V47 6 ((z51 - 1).toNat)) fun z64 => rdb (iRem z64 1048576) fun z65 => fct (-1048575 ≤ z65 ∧ z65 ≤ 1048575) <| rdb (V47 5 z65.toNat) fun z67 => rdb (iDiv z67 1048576) fun z68 => rdb (up2 V47 5 z65.toNat (1048576 * z68 + z50)) fun V69 => rdb (up2 V69 0 11 (z51 - 1)) fun V70 => rc47 V70))))
def cdD (J : Nat → Nat → Int) (Rr : Nat → Nat → Nat) (rcC : (Nat → Nat → Int) → Int × (Nat → Nat → Int) → Prop) : ((Nat → Nat → Int) → Int × (Nat → Nat → Int) → Prop) → (Nat → Nat → Int) → Int × (Nat → Nat → Int) → Prop :=
  (fun rc592 (V592 : Nat → Nat → Int) => rdb (V592 0 5) fun z593 => fct (0 ≤ z593 ∧ z593 ≤ 220) <| rdb (V592 0 6) fun z594 => fct (0 ≤ z594 ∧ z594 ≤ 220) <| rdb (V592 0 10) fun z595 => fct (0 ≤ z595 ∧ z595 ≤ 220) <| rdb (V592 0 11) fun z596 => fct (0 ≤ z596 ∧ z596 ≤ 220) <| calR (f_m_here V592 J Rr) fun z597 => fct (-1 ≤ z597 ∧ z597 ≤ 255) <| (if ¬ z597 = 41 then calR (f_m_here V592 J Rr) fun z599 => fct (-1 ≤ z599 ∧ z599 ≤ 255) <| (if z599 = 38 then calR (f_m_here V592 J Rr) fun z601 => fct (-1 ≤ z601 ∧ z601 ≤ 255) <| (if ¬ z601 = 124 then calUM 590295810358705653760 V592 (f_m_lands 0 V592 J Rr) fun V603 => rdb (V603 0 5) fun z604 => fct (0 ≤ z604 ∧ z604 ≤ 220) <| rdb (V603 0 6) fun z605 => fct (0 ≤ z605 ∧ z605 ≤ 220) <| rdb (V603 0 10) fun z606 => fct (0 ≤ z606 ∧ z606 ≤ 220) <| rdb (V603 0 11) fun z607 => fct (0 ≤ z607 ∧ z607 ≤ 220) <| calR (f_m_here V603 J Rr) fun z608 => fct (-1 ≤ z608 ∧ z608 ≤ 255) <| (if ¬ z608 = 38 then calUM 1770887431076116958240 V603 (f_m_jumps 12 V603 J Rr) fun V610 => rcC V610 else calUM 1770887431076116958240 V603 (f_m_jumps 11 V603 J Rr) fun V611 => rcC V611) else calUM 590295810358705653760 V592 (f_m_lands 1 V592 J Rr) fun V612 => rdb (V612 0 5) fun z613 => fct (0 ≤ z613 ∧ z613 ≤ 220) <| rdb (V612 0 6) fun z614 => fct (0 ≤ z614 ∧ z614 ≤ 220) <| rdb (V612 0 10) fun z615 => fct (0 ≤ z615 ∧ z615 ≤ 220) <| rdb (V612 0 11) fun z616 => fct (0 ≤ z616 ∧ z616 ≤ 220) <| calR (f_m_here V612 J Rr) fun z617 => fct (-1 ≤ z617 ∧ z617 ≤ 255) <| (if ¬ z617 = 38 then calUM 1770887431076116958240 V612 (f_m_jumps 12 V612 J Rr) fun V619 => rcC V619 else calUM 1770887431076116958240 V612 (f_m_jumps 11 V612 J Rr) fun V620 => rcC V620)) else calR (f_m_here V592 J Rr) fun z621 => fct (-1 ≤ z621 ∧ z621 ≤ 255) <| (if z621 = 124 then calR (f_m_here V592 J Rr) fun z623 => fct (-1 ≤ z623 ∧ z623 ≤ 255) <| (if ¬ z623 = 124 then calUM 590295810358705653760 V592 (f_m_lands 0 V592 J Rr) fun V625 => rdb (V625 0 5) fun z626 => fct (0 ≤ z626 ∧ z626 ≤ 220) <| rdb (V625 0 6) fun z627 => fct (0 ≤ z627 ∧ z627 ≤ 220) <| rdb (V625 0 10) fun z628 => fct (0 ≤ z628 ∧ z628 ≤ 220) <| rdb (V625 0 11) fun z629 => fct (0 ≤ z629 ∧ z629 ≤ 220) <| calR (f_m_here V625 J Rr) fun z630 => fct (-1 ≤ z630 ∧ z630 ≤ 255) <| (if ¬ z630 = 38 then calUM 1770887431076116958240 V625 (f_m_jumps 12 V625 J Rr) fun V632 => rcC V632 else calUM 1770887431076116958240 V625 (f_m_jumps 11 V625 J Rr) fun V633 => rcC V633) else calUM 590295810358705653760 V592 (f_m_lands 1 V592 J Rr) fun V634 => rdb (V634 0 5) fun z635 => fct (0 ≤ z635 ∧ z635 ≤ 220) <| rdb (V634 0 6) fun z636 => fct (0 ≤ z636 ∧ z636 ≤ 220) <| rdb (V634 0 10) fun z637 => fct (0 ≤ z637 ∧ z637 ≤ 220) <| rdb (V634 0 11) fun z638 => fct (0 ≤ z638 ∧ z638 ≤ 220) <| calR (f_m_here V634 J Rr) fun z639 => fct (-1 ≤ z639 ∧ z639 ≤ 255) <| (if ¬ z639 = 38 then calUM 1770887431076116958240 V634 (f_m_jumps 12 V634 J Rr) fun V641 => rcC V641 else calUM 1770887431076116958240 V634 (f_m_jumps 11 V634 J Rr) fun V642 => rcC V642)) else calVM 128 V592 (f_m_wrongAt 1 z593 V592 J Rr) fun z643 V643 => fct (0 ≤ z643 ∧ z643 ≤ 0) <| rtn (z643, V643))) else calUM 590295810358705653760 V592 (f_m_lands 1 V592 J Rr) fun V644 => rdb (V644 0 5) fun z645 => fct (0 ≤ z645 ∧ z645 ≤ 220) <| rdb (V644 0 6) fun z646 => fct (0 ≤ z646 ∧ z646 ≤ 220) <| rdb (V644 0 10) fun z647 => fct (0 ≤ z647 ∧ z647 ≤ 220) <| rdb (V644 0 11) fun z648 => fct (0 ≤ z648 ∧ z648 ≤ 220) <| rdb (up2 V644 0 11 (z648 - 1)) fun V649 => rdb (V649 0 9) fun z650 => rdb (wr (z650 - 1)) fun z651 => rdb (up2 V649 0 9 z651) fun V652 => rdb (up2 V652 0 5 (z645 + 1)) fun V653 => (if ¬ z648 - 1 = 0 then calUM 590295810358705655296 V653 (f_m_endsPiece V653 J Rr) fun V655 => rc592 V655 else rtn (1, V653))))
def cdC (J : Nat → Nat → Int) (Rr : Nat → Nat → Nat) : ((Nat → Nat → Int) → Int × (Nat → Nat → Int) → Prop) → (Nat → Nat → Int) → Int × (Nat → Nat → Int) → Prop :=
  (fun rc446 (V446 : Nat → Nat → Int) => rdb (V446 0 5) fun z447 => fct (0 ≤ z447 ∧ z447 ≤ 220) <| rdb (V446 0 6) fun z448 => fct (0 ≤ z448 ∧ z448 ≤ 220) <| rdb (V446 0 10) fun z449 => fct (0 ≤ z449 ∧ z449 ≤ 220) <| rdb (V446 0 11) fun z450 => fct (0 ≤ z450 ∧ z450 ≤ 220) <| calR (f_m_here V446 J Rr) fun z451 => fct (-1 ≤ z451 ∧ z451 ≤ 255) <| (if z451 = 33 then calR (f_m_here V446 J Rr) fun z453 => fct (-1 ≤ z453 ∧ z453 ≤ 255) <| (if ¬ z453 = 33 then calVM 1180591620717411306144 V446 (f_m_opens 13 V446 J Rr) fun z455 V455 => fct (0 ≤ z455 ∧ z455 ≤ 1) <| (if ¬ z455 = 0 then rc446 V455 else rtn (0, V455)) else calVM 1180591620717411306144 V446 (f_m_opens 10 V446 J Rr) fun z458 V458 => fct (0 ≤ z458 ∧ z458 ≤ 1) <| (if ¬ z458 = 0 then rc446 V458 else rtn (0, V458))) else calR (f_m_here V446 J Rr) fun z461 => fct (-1 ≤ z461 ∧ z461 ≤ 255) <| (if ¬ z461 = 40 then calVM 1770887431076116959136 V446 (f_m_readsCompared V446 J Rr) fun z463 V463 => fct (0 ≤ z463 ∧ z463 ≤ 1) <| (if ¬ z463 = 0 then lop1 ((V463 0 11).toNat + 1) (cdD J Rr rc446) V463 else rtn (0, V463)) else calR (f_m_here V446 J Rr) fun z656 => fct (-1 ≤ z656 ∧ z656 ≤ 255) <| (if ¬ z656 = 33 then calVM 1180591620717411306144 V446 (f_m_opens 13 V446 J Rr) fun z658 V658 => fct (0 ≤ z658 ∧ z658 ≤ 1) <| (if ¬ z658 = 0 then rc446 V658 else rtn (0, V658)) else calVM 1180591620717411306144 V446 (f_m_opens 10 V446 J Rr) fun z661 V661 => fct (0 ≤ z661 ∧ z661 ≤ 1) <| (if ¬ z661 = 0 then rc446 V661 else rtn (0, V661))))))
def RCz (J : Nat → Nat → Int) (R : Nat → Nat → Nat) (W : Nat → Nat → Int) (r : Int × (Nat → Nat → Int)) : Prop := ∃ n : Nat, lop1 n (cdC J R) W r
def RG (J : Nat → Nat → Int) (R : Nat → Nat → Nat) (W : Nat → Nat → Int) (r : Int × (Nat → Nat → Int)) : Prop := ∃ n m : Nat, lop1 m (cdD J R (lop1 n (cdC J R))) W r
def RE (J : Nat → Nat → Int) (R : Nat → Nat → Nat) (W : Nat → Nat → Int) (r : Int × (Nat → Nat → Int)) : Prop := ∃ (k : Nat) (Y : Nat → Nat → Int), lop1 k (enB J R) W Y ∧ RG J R Y r
/-- a ! is ended -/
def notd (W : Nat → Nat → Int) : Nat → Nat → Int := up2 (clo W 10) 0 9 (W 0 9 - 1)
/-- a jump is noted -/
def jmpd (W : Nat → Nat → Int) (o : Int) : Nat → Nat → Int := up2 (up2 (up2 (up2 (up2 W 6 (W 0 11).toNat (1048576 * o + W 0 10)) 0 11 (W 0 11 + 1)) 5 (W 0 10).toNat (1048576 * o + 0)) 0 10 (W 0 10 + 1)) 0 5 (W 0 5 + 1)
/-- a jump lands -/
def lnd (W : Nat → Nat → Int) (p : Nat) : Nat → Nat → Int := up2 (up2 W 5 p (1048576 * iDiv (W 5 p) 1048576 + W 0 10)) 0 11 (W 0 11 - 1)
theorem q_ends {W X J : Nat → Nat → Int} {R : Nat → Nat → Nat} (h : f_m_endsPiece W J R X) : ∃ n : Nat, lop1 n (enB J R) W X := ⟨_, h⟩
theorem q_lands {x : Int} {W X J : Nat → Nat → Int} {R : Nat → Nat → Nat} (h : f_m_lands x W J R X) : ∃ n : Nat, lop1 n (laB x J R) W X := ⟨_, h⟩
theorem q_jumps {o : Int} {W X J : Nat → Nat → Int} {R : Nat → Nat → Nat} (h : f_m_jumps o W J R X) : X = jmpd W o := by
  unfold f_m_jumps at h
  obtain ⟨z1, e1, -, h⟩ := rdb_g h
  obtain ⟨z2, -, -, h⟩ := rdb_g h
  obtain ⟨z3, e3, -, h⟩ := rdb_g h
  obtain ⟨z4, e4, -, h⟩ := rdb_g h
  obtain ⟨V5, e5, h⟩ := rdb_g h
  obtain ⟨V6, e6, h⟩ := rdb_g h
  obtain ⟨V7, h7, -, h⟩ := h
  obtain ⟨V8, e8, h⟩ := rdb_g h
  have h : X = V8 := h
  have k := q_notes h7
  have e10 : V6 0 10 = W 0 10 := by rw [← e6, up2_n _ _ (Or.inr (by decide)), ← e5, up2_n _ _ (Or.inl (by decide))]
  rw [e10] at k
  rw [h, ← e8, k, ← e6, ← e5, ← e1, ← e3, ← e4]
  rfl
theorem RE.not {W J : Nat → Nat → Int} {R : Nat → Nat → Nat} {r : Int × (Nat → Nat → Int)} (h : RE J R W r) (ht : wtop W = 10) (ho : 0 ≤ W 0 9 ∧ W 0 9 ≤ 6) : RE J R (notd W) r := by
  obtain ⟨k, Y, h, hG⟩ := h
  cases k with
  | zero => exact False.elim h
  | succ k =>
    have h : enB J R (lop1 k (enB J R)) W Y := h
    unfold enB at h
    obtain ⟨z24, -, -, h⟩ := rdb_g h
    obtain ⟨z25, -, -, h⟩ := rdb_g h
    obtain ⟨z26, -, -, h⟩ := rdb_g h
    obtain ⟨z27, e27, -, h⟩ := rdb_g h
    obtain ⟨z28, h28, h⟩ := h
    have h28 := q_wtop h28
    rw [if_neg (fun hh => hh (by omega))] at h
    obtain ⟨V30, h30, -, h⟩ := h
    obtain ⟨V31, e31, h⟩ := rdb_g h
    obtain ⟨z32, e32, h⟩ := rdb_g h
    obtain ⟨z33, e33, h⟩ := rdb_g h
    obtain ⟨V34, e34, h⟩ := rdb_g h
    have h30 := q_notes h30
    have e9 : z32 = W 0 9 := by rw [← e32, ← e31, up2_n _ _ (Or.inr (by decide)), h30, up2_n _ _ (Or.inr (by decide)), up2_n _ _ (Or.inl (by decide))]
    rw [e9, wr_id ⟨by omega, by omega⟩] at e33
    have : V34 = notd W := by rw [← e34, ← e33, ← e31, h30, ← e27]; rfl
    rw [← this]
    exact ⟨k, Y, h, hG⟩
theorem RE.go {W J : Nat → Nat → Int} {R : Nat → Nat → Nat} {r : Int × (Nat → Nat → Int)} (h : RE J R W r) (ht : ¬ wtop W = 10) : RG J R W r := by
  obtain ⟨k, Y, h, hG⟩ := h
  cases k with
  | zero => exact False.elim h
  | succ k =>
    have h : enB J R (lop1 k (enB J R)) W Y := h
    unfold enB at h
    obtain ⟨z24, -, -, h⟩ := rdb_g h
    obtain ⟨z25, -, -, h⟩ := rdb_g h
    obtain ⟨z26, -, -, h⟩ := rdb_g h
    obtain ⟨z27, e27, -, h⟩ := rdb_g h
    obtain ⟨z28, h28, h⟩ := h
    have h28 := q_wtop h28
    rw [if_pos (by omega)] at h
    have h : Y = W := h
    subst h
    exact hG
theorem RCz.cmp {W J : Nat → Nat → Int} {R : Nat → Nat → Nat} {r : Int × (Nat → Nat → Int)} (h : RCz J R W r) (h1 : ¬ sgnZ W = 33) (h2 : ¬ sgnZ W = 40) : ∃ (q : Int) (Y : Nat → Nat → Int), f_m_readsCompared W J R (q, Y) ∧ (0 ≤ q ∧ q ≤ 1) ∧ (q = 0 → r = (0, Y)) ∧ (q = 1 → RG J R Y r) := by
  obtain ⟨n, h⟩ := h
  cases n with
  | zero => exact False.elim h
  | succ n =>
    have h : cdC J R (lop1 n (cdC J R)) W r := h
    unfold cdC at h
    obtain ⟨z447, -, -, h⟩ := rdb_g h
    obtain ⟨z448, -, -, h⟩ := rdb_g h
    obtain ⟨z449, -, -, h⟩ := rdb_g h
    obtain ⟨z450, -, -, h⟩ := rdb_g h
    obtain ⟨c, hc, -, h⟩ := h
    have hc := q_here hc
    rw [if_neg (by omega)] at h
    obtain ⟨c2, hc2, -, h⟩ := h
    have hc2 := q_here hc2
    rw [if_pos (by omega)] at h
    obtain ⟨q, Y, hY, -, hq, h⟩ := h
    refine ⟨q, Y, hY, hq, fun g => ?_, fun g => ?_⟩
    · rw [if_neg (fun hh => hh g)] at h; exact h
    · rw [if_pos (by omega)] at h
      exact ⟨n, _, h⟩
theorem RCz.opn {W J : Nat → Nat → Int} {R : Nat → Nat → Nat} {r : Int × (Nat → Nat → Int)} (h : RCz J R W r) (hs : sgnZ W = 33 ∨ sgnZ W = 40) (ho : 0 ≤ W 0 9 ∧ W 0 9 ≤ 6) : (W 0 9 = 6 ∧ ∃ X : Nat → Nat → Int, r = (0, X) ∧ X 0 7 = -5000 - W 0 5) ∨ (¬ W 0 9 = 6 ∧ (sgnZ W = 33 → RCz J R (opnd W 10) r) ∧ (sgnZ W = 40 → RCz J R (opnd W 13) r)) := by
  obtain ⟨n, h⟩ := h
  cases n with
  | zero => exact False.elim h
  | succ n =>
    have h : cdC J R (lop1 n (cdC J R)) W r := h
    unfold cdC at h
    obtain ⟨z447, -, -, h⟩ := rdb_g h
    obtain ⟨z448, -, -, h⟩ := rdb_g h
    obtain ⟨z449, -, -, h⟩ := rdb_g h
    obtain ⟨z450, -, -, h⟩ := rdb_g h
    obtain ⟨c, hc, -, h⟩ := h
    have hc := q_here hc
    by_cases g : sgnZ W = 33
    · rw [if_pos (by omega)] at h
      obtain ⟨c2, hc2, -, h⟩ := h
      have hc2 := q_here hc2
      rw [if_neg (fun hh => hh (by omega))] at h
      obtain ⟨y, Y, hy, -, -, h⟩ := h
      rcases q_opens hy ho with ⟨k1, k2, k3⟩ | ⟨k1, k2, k3⟩
      · rw [if_neg (fun hq => hq k2)] at h
        have h : r = (0, Y) := h
        exact Or.inl ⟨k1, Y, h, by rw [k3, up2_s]⟩
      · rw [if_pos (by omega), k3] at h
        exact Or.inr ⟨k1, fun _ => ⟨n, h⟩, fun h2 => by omega⟩
    · rw [if_neg (by omega)] at h
      obtain ⟨c2, hc2, -, h⟩ := h
      have hc2 := q_here hc2
      rw [if_neg (fun hh => hh (by omega))] at h
      obtain ⟨c3, hc3, -, h⟩ := h
      have hc3 := q_here hc3
      rw [if_pos (by omega)] at h
      obtain ⟨y, Y, hy, -, -, h⟩ := h
      rcases q_opens hy ho with ⟨k1, k2, k3⟩ | ⟨k1, k2, k3⟩
      · rw [if_neg (fun hq => hq k2)] at h
        have h : r = (0, Y) := h
        exact Or.inl ⟨k1, Y, h, by rw [k3, up2_s]⟩
      · rw [if_pos (by omega), k3] at h
        exact Or.inr ⟨k1, fun h2 => absurd h2 g, fun _ => ⟨n, h⟩⟩
theorem RG.cls {W J : Nat → Nat → Int} {R : Nat → Nat → Nat} {r : Int × (Nat → Nat → Int)} (h : RG J R W r) (hs : sgnZ W = 41) : ∃ Y : Nat → Nat → Int, (∃ n : Nat, lop1 n (laB 1 J R) W Y) ∧ ((0 ≤ Y 0 9 ∧ Y 0 9 ≤ 6) → (Y 0 11 = 1 → r = (1, clsd Y)) ∧ (¬ Y 0 11 = 1 → RE J R (clsd Y) r)) := by
  obtain ⟨n, m, h⟩ := h
  cases m with
  | zero => exact False.elim h
  | succ m =>
    have h : cdD J R (lop1 n (cdC J R)) (lop1 m (cdD J R (lop1 n (cdC J R)))) W r := h
    unfold cdD at h
    obtain ⟨z593, e593, -, h⟩ := rdb_g h
    obtain ⟨z594, -, -, h⟩ := rdb_g h
    obtain ⟨z595, -, -, h⟩ := rdb_g h
    obtain ⟨z596, -, -, h⟩ := rdb_g h
    obtain ⟨c, hc, -, h⟩ := h
    have hc := q_here hc
    rw [if_neg (fun hh => hh (by omega))] at h
    obtain ⟨Y, hY, -, h⟩ := h
    obtain ⟨z645, e645, -, h⟩ := rdb_g h
    obtain ⟨z646, -, -, h⟩ := rdb_g h
    obtain ⟨z647, -, -, h⟩ := rdb_g h
    obtain ⟨z648, e648, -, h⟩ := rdb_g h
    obtain ⟨V649, e649, h⟩ := rdb_g h
    obtain ⟨z650, e650, h⟩ := rdb_g h
    obtain ⟨z651, e651, h⟩ := rdb_g h
    obtain ⟨V652, e652, h⟩ := rdb_g h
    obtain ⟨V653, e653, h⟩ := rdb_g h
    refine ⟨Y, q_lands hY, fun hy9 => ?_⟩
    have e9 : z650 = Y 0 9 := by rw [← e650, ← e649, up2_n _ _ (Or.inr (by decide))]
    rw [e9, wr_id ⟨by omega, by omega⟩] at e651
    have this : V653 = clsd Y := by rw [← e653, ← e652, ← e651, ← e649, ← e648, ← e645]; rfl
    refine ⟨fun g => ?_, fun g => ?_⟩
    · rw [if_neg (fun hh => hh (by omega))] at h
      rw [← this]; exact h
    · rw [if_pos (by omega)] at h
      obtain ⟨Z, hZ, -, h⟩ := h
      obtain ⟨k, hk⟩ := q_ends hZ
      rw [← this]
      exact ⟨k, Z, hk, n, m, h⟩
theorem RG.jmp {o : Int} {W J : Nat → Nat → Int} {R : Nat → Nat → Nat} {r : Int × (Nat → Nat → Int)} (h : RG J R W r) (hs : (sgnZ W = 38 ∧ o = 11) ∨ (sgnZ W = 124 ∧ o = 12)) : ∃ Y : Nat → Nat → Int, (∃ n : Nat, lop1 n (laB (o - 11) J R) W Y) ∧ (sgnZ Y = sgnZ W → RCz J R (jmpd Y o) r) := by
  obtain ⟨n, m, h⟩ := h
  cases m with
  | zero => exact False.elim h
  | succ m =>
    have h : cdD J R (lop1 n (cdC J R)) (lop1 m (cdD J R (lop1 n (cdC J R)))) W r := h
    unfold cdD at h
    obtain ⟨z593, e593, -, h⟩ := rdb_g h
    obtain ⟨z594, -, -, h⟩ := rdb_g h
    obtain ⟨z595, -, -, h⟩ := rdb_g h
    obtain ⟨z596, -, -, h⟩ := rdb_g h
    obtain ⟨c, hc, -, h⟩ := h
    have hc := q_here hc
    rw [if_pos (by omega)] at h
    obtain ⟨c2, hc2, -, h⟩ := h
    have hc2 := q_here hc2
    rcases hs with ⟨hs, rfl⟩ | ⟨hs, rfl⟩
    · rw [if_pos (by omega)] at h
      obtain ⟨c3, hc3, -, h⟩ := h
      have hc3 := q_here hc3
      rw [if_pos (by omega)] at h
      obtain ⟨Y, hY, -, h⟩ := h
      obtain ⟨z604, -, -, h⟩ := rdb_g h
      obtain ⟨z605, -, -, h⟩ := rdb_g h
      obtain ⟨z606, -, -, h⟩ := rdb_g h
      obtain ⟨z607, -, -, h⟩ := rdb_g h
      obtain ⟨c4, hc4, -, h⟩ := h
      have hc4 := q_here hc4
      refine ⟨Y, q_lands hY, fun hy => ?_⟩
      rw [if_neg (fun hh => hh (by omega))] at h
      obtain ⟨Z, hZ, -, h⟩ := h
      rw [q_jumps hZ] at h
      exact ⟨n, h⟩
    · rw [if_neg (by omega)] at h
      obtain ⟨c3, hc3, -, h⟩ := h
      have hc3 := q_here hc3
      rw [if_pos (by omega)] at h
      obtain ⟨c5, hc5, -, h⟩ := h
      have hc5 := q_here hc5
      rw [if_neg (fun hh => hh (by omega))] at h
      obtain ⟨Y, hY, -, h⟩ := h
      obtain ⟨z604, -, -, h⟩ := rdb_g h
      obtain ⟨z605, -, -, h⟩ := rdb_g h
      obtain ⟨z606, -, -, h⟩ := rdb_g h
      obtain ⟨z607, -, -, h⟩ := rdb_g h
      obtain ⟨c4, hc4, -, h⟩ := h
      have hc4 := q_here hc4
      refine ⟨Y, q_lands hY, fun hy => ?_⟩
      rw [if_pos (by omega)] at h
      obtain ⟨Z, hZ, -, h⟩ := h
      rw [q_jumps hZ] at h
      exact ⟨n, h⟩
theorem RG.bad {W J : Nat → Nat → Int} {R : Nat → Nat → Nat} {r : Int × (Nat → Nat → Int)} (h : RG J R W r) (h1 : ¬ sgnZ W = 41) (h2 : ¬ sgnZ W = 38) (h3 : ¬ sgnZ W = 124) (hp : 0 ≤ W 0 5 ∧ W 0 5 ≤ 200) : ∃ X : Nat → Nat → Int, r = (0, X) ∧ X 0 7 = -1000 - W 0 5 := by
  obtain ⟨n, m, h⟩ := h
  cases m with
  | zero => exact False.elim h
  | succ m =>
    have h : cdD J R (lop1 n (cdC J R)) (lop1 m (cdD J R (lop1 n (cdC J R)))) W r := h
    unfold cdD at h
    obtain ⟨z593, e593, -, h⟩ := rdb_g h
    obtain ⟨z594, -, -, h⟩ := rdb_g h
    obtain ⟨z595, -, -, h⟩ := rdb_g h
    obtain ⟨z596, -, -, h⟩ := rdb_g h
    obtain ⟨c, hc, -, h⟩ := h
    have hc := q_here hc
    rw [if_pos (by omega)] at h
    obtain ⟨c2, hc2, -, h⟩ := h
    have hc2 := q_here hc2
    rw [if_neg (by omega)] at h
    obtain ⟨c3, hc3, -, h⟩ := h
    have hc3 := q_here hc3
    rw [if_neg (by omega)] at h
    obtain ⟨q, Y, hY, -, -, h⟩ := h
    obtain ⟨k3, k4⟩ := q_wrong hY (by decide) (by omega)
    have h : r = (q, Y) := h
    refine ⟨Y, by rw [h, k3], ?_⟩
    rw [k4, up2_s, ← e593]
    omega
theorem la_stop {x : Int} {W X J : Nat → Nat → Int} {R : Nat → Nat → Nat} {n : Nat} (hx : x = 0 ∨ x = 1) (h : lop1 n (laB x J R) W X) (h1 : ¬ wtop W = 11) (h2 : x = 1 → ¬ wtop W = 12) : X = W := by
  cases n with
  | zero => exact False.elim h
  | succ n =>
    have h : laB x J R (lop1 n (laB x J R)) W X := h
    unfold laB at h
    obtain ⟨z48, -, -, h⟩ := rdb_g h
    obtain ⟨z49, -, -, h⟩ := rdb_g h
    obtain ⟨z50, -, -, h⟩ := rdb_g h
    obtain ⟨z51, -, -, h⟩ := rdb_g h
    obtain ⟨c, hc, h⟩ := h
    have hc := q_wtop hc
    rw [if_neg (by omega)] at h
    by_cases g : x = 0
    · rw [if_pos g] at h; exact h
    · rw [if_neg g] at h
      obtain ⟨c2, hc2, h⟩ := h
      have hc2 := q_wtop hc2
      rw [if_pos (by omega)] at h
      exact h
theorem la_go {x o p : Int} {W X J : Nat → Nat → Int} {R : Nat → Nat → Nat} {n : Nat} (h : lop1 n (laB x J R) W X) (ho : o = 11 ∨ (x = 1 ∧ o = 12)) (h11 : ¬ W 0 11 = 0) (hp : 0 ≤ p ∧ p < 1048576) (hw : W 6 (W 0 11 - 1).toNat = 1048576 * o + p) : ∃ m : Nat, lop1 m (laB x J R) (lnd W p.toNat) X := by
  have ht : wtop W = o := by unfold wtop; rw [if_neg h11, hw]; exact (iDiv_p (by omega) (by decide)).trans (by omega)
  have hr : iRem (W 6 (W 0 11 - 1).toNat) 1048576 = p := by rw [hw, iRem_p (by omega) (by decide)]; omega
  cases n with
  | zero => exact False.elim h
  | succ n =>
    have h : laB x J R (lop1 n (laB x J R)) W X := h
    unfold laB at h
    obtain ⟨z48, -, -, h⟩ := rdb_g h
    obtain ⟨z49, -, -, h⟩ := rdb_g h
    obtain ⟨z50, e50, -, h⟩ := rdb_g h
    obtain ⟨z51, e51, -, h⟩ := rdb_g h
    obtain ⟨c, hc, h⟩ := h
    have hc := q_wtop hc
    by_cases g : c = 11
    · rw [if_pos g] at h
      obtain ⟨z54, e54, h⟩ := rdb_g h
      obtain ⟨z55, e55, -, h⟩ := rdb_g h
      obtain ⟨z57, e57, h⟩ := rdb_g h
      obtain ⟨z58, e58, h⟩ := rdb_g h
      obtain ⟨V59, e59, h⟩ := rdb_g h
      obtain ⟨V60, e60, h⟩ := rdb_g h
      rw [← e54, ← e51, hr] at e55
      have this : V60 = lnd W p.toNat := by rw [← e60, ← e59, ← e58, ← e57, ← e55, ← e51, ← e50]; rfl
      exact ⟨n, by rw [← this]; exact h⟩
    · rw [if_neg g, if_neg (by omega)] at h
      obtain ⟨c2, hc2, h⟩ := h
      have hc2 := q_wtop hc2
      rw [if_neg (fun hh => hh (by omega))] at h
      obtain ⟨z54, e54, h⟩ := rdb_g h
      obtain ⟨z55, e55, -, h⟩ := rdb_g h
      obtain ⟨z57, e57, h⟩ := rdb_g h
      obtain ⟨z58, e58, h⟩ := rdb_g h
      obtain ⟨V59, e59, h⟩ := rdb_g h
      obtain ⟨V60, e60, h⟩ := rdb_g h
      rw [← e54, ← e51, hr] at e55
      have this : V60 = lnd W p.toNat := by rw [← e60, ← e59, ← e58, ← e57, ← e55, ← e51, ← e50]; rfl
      exact ⟨n, by rw [← this]; exact h⟩
