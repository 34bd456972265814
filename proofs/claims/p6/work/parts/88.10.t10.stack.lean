-- reading: the stacks; operators that wait (own work)
/-- a word of the first side, a word of the reference -/
def stw (s w : Int) : Prop := ∃ op v : Int, w = 1048576 * op + v ∧ stp s op v
theorem stw_op {o : Int} (h : 2 ≤ o ∧ o ≤ 12) : stw o (1048576 * o + 0) := ⟨o, 0, rfl, by omega, by omega, by omega, by omega, Or.inl ⟨by omega, by omega⟩⟩
/-- the code: the first side's is ahead of the reference's by the operators L -/
def CA (t : Nat) (V W : Nat → Nat → Int) (L : List Int) : Prop :=
  0 ≤ W 0 10 ∧ V t 1 = W 0 10 + L.length ∧ (∀ k : Nat, (k : Int) < W 0 10 → stw (V (t + 1) k) (W 5 k)) ∧ ∀ i : Nat, i < L.length → V (t + 1) ((W 0 10).toNat + i) = L.getD i 0
/-- the words O wait on the reference's stack above place b, the last one first -/
def WS (W : Nat → Nat → Int) (b : Int) (O : List Int) : Prop := 0 ≤ b ∧ W 0 11 = b + O.length ∧ ∀ i : Nat, i < O.length → W 6 ((W 0 11).toNat - 1 - i) = 1048576 * O.getD i 0
def wtop (W : Nat → Nat → Int) : Int := if W 0 11 = 0 then -1 else iDiv (W 6 (W 0 11 - 1).toNat) 1048576
theorem q_wtop {r : Int} {W J : Nat → Nat → Int} {R : Nat → Nat → Nat} (h : f_m_waitTop W J R r) : r = wtop W := by
  simp only [f_m_waitTop, rdb] at h
  obtain ⟨-, h⟩ := h
  unfold wtop
  by_cases g : W 0 11 = 0
  · rw [if_neg (fun hh => hh g)] at h
    rw [if_pos g]; exact h
  · rw [if_pos g] at h
    rw [if_neg g]; exact h
theorem WS.top {W : Nat → Nat → Int} {b o : Int} {O : List Int} (h : WS W b (o :: O)) (ho : 0 ≤ o ∧ o ≤ 14) : wtop W = o := by
  obtain ⟨h1, h2, h3⟩ := h
  have h0 := h3 0 (by simp)
  simp only [List.length_cons, Int.natCast_add] at h2
  unfold wtop
  rw [if_neg (by omega), show (W 0 11 - 1).toNat = (W 0 11).toNat - 1 - 0 by omega, h0]
  show iDiv (1048576 * o) 1048576 = o
  rw [iDiv_p (by omega) (by decide)]
  omega
/-- one operator is noted and taken off -/
def clo (W : Nat → Nat → Int) (o : Int) : Nat → Nat → Int := up2 (up2 (up2 W 5 (W 0 10).toNat (1048576 * o + 0)) 0 10 (W 0 10 + 1)) 0 11 (W 0 11 - 1)
theorem clo_10 (W : Nat → Nat → Int) (o : Int) : clo W o 0 10 = W 0 10 + 1 := by unfold clo; rw [up2_n _ _ (Or.inr (by decide)), up2_s]
theorem clo_11 (W : Nat → Nat → Int) (o : Int) : clo W o 0 11 = W 0 11 - 1 := by unfold clo; rw [up2_s]
theorem clo_0 (W : Nat → Nat → Int) (o : Int) {k : Nat} (h : k ≠ 10) (h2 : k ≠ 11) : clo W o 0 k = W 0 k := by unfold clo; rw [up2_n _ _ (Or.inr h2), up2_n _ _ (Or.inr h), up2_n _ _ (Or.inl (by decide))]
theorem clo_r (W : Nat → Nat → Int) (o : Int) {i : Nat} (h : i ≠ 0) (h2 : i ≠ 5) : clo W o i = W i := by unfold clo; rw [up2_c _ _ h, up2_c _ _ h, up2_c _ _ h2]
theorem clo_5 (W : Nat → Nat → Int) (o : Int) (k : Nat) : clo W o 5 k = if k = (W 0 10).toNat then 1048576 * o + 0 else W 5 k := by
  unfold clo
  rw [up2_n _ _ (Or.inl (by decide)), up2_n _ _ (Or.inl (by decide))]
  by_cases e : k = (W 0 10).toNat
  · subst e; rw [up2_s, if_pos rfl]
  · rw [up2_n _ _ (Or.inr e), if_neg e]
theorem CA.dn {t : Nat} {V W : Nat → Nat → Int} {o : Int} {L : List Int} (h : CA t V W (o :: L)) (ho : 2 ≤ o ∧ o ≤ 12) : CA t V (clo W o) L := by
  obtain ⟨h1, h2, h3, h4⟩ := h
  have h0 : V (t + 1) (W 0 10).toNat = o := h4 0 (by simp)
  simp only [List.length_cons, Int.natCast_add] at h2
  refine ⟨by rw [clo_10]; omega, by rw [clo_10]; omega, fun k hk => ?_, fun i hi => ?_⟩
  · rw [clo_10] at hk
    rw [clo_5]
    by_cases e : k = (W 0 10).toNat
    · rw [if_pos e]
      subst e
      rw [h0]
      exact stw_op ho
    · rw [if_neg e]
      exact h3 k (by omega)
  · rw [clo_10]
    have := h4 (i + 1) (by simp; omega)
    rw [show (W 0 10 + 1).toNat + i = (W 0 10).toNat + (i + 1) by omega, this]
    rfl
theorem WS.dn {W : Nat → Nat → Int} {b o : Int} {O : List Int} (h : WS W b (o :: O)) : WS (clo W o) b O := by
  obtain ⟨h1, h2, h3⟩ := h
  simp only [List.length_cons, Int.natCast_add] at h2
  refine ⟨h1, by rw [clo_11]; omega, fun i hi => ?_⟩
  have := h3 (i + 1) (by simp; omega)
  rw [clo_r _ _ (by decide) (by decide), clo_11, show (W 0 11 - 1).toNat - 1 - i = (W 0 11).toNat - 1 - (i + 1) by omega, this]
  rfl
def popc (x o : Int) : Prop := (4 ≤ o ∧ o ≤ 6) ∨ (x = 1 ∧ (o = 2 ∨ o = 3))
def clB (x1 : Int) (J : Nat → Nat → Int) (Rr : Nat → Nat → Nat) : ((Nat → Nat → Int) → (Nat → Nat → Int) → Prop) → (Nat → Nat → Int) → (Nat → Nat → Int) → Prop :=
  (fun rc65 (V65 : Nat → Nat → Int) => rdb (V65 0 5) fun z66 => fct (0 ≤ z66 ∧ z66 ≤ 220) <| rdb (V65 0 10) fun z67 => fct (0 ≤ z67 ∧ z67 ≤ 220) <| rdb (V65 0 11) fun z68 => fct (0 ≤ z68 ∧ z68 ≤ 220) <| calR (f_m_waitTop V65 J Rr) fun z69 => (if z69 < 4 then (if x1 = 0 then rtn V65 else calR (f_m_waitTop V65 J Rr) fun z72 => (if z72 = 2 then calR (f_m_waitTop V65 J Rr) fun z74 => calUM 590295810358705652736 V65 (f_m_notes z74 0 V65 J Rr) fun V75 => rdb (up2 V75 0 11 (z68 - 1)) fun V76 => rc65 V76 else calR (f_m_waitTop V65 J Rr) fun z77 => (if ¬ z77 = 3 then rtn V65 else calR (f_m_waitTop V65 J Rr) fun z79 => calUM 590295810358705652736 V65 (f_m_notes z79 0 V65 J Rr) fun V80 => rdb (up2 V80 0 11 (z68 - 1)) fun V81 => rc65 V81))) else calR (f_m_waitTop V65 J Rr) fun z82 => (if z82 ≤ 6 then calR (f_m_waitTop V65 J Rr) fun z84 => calUM 590295810358705652736 V65 (f_m_notes z84 0 V65 J Rr) fun V85 => rdb (up2 V85 0 11 (z68 - 1)) fun V86 => rc65 V86 else (if x1 = 0 then rtn V65 else calR (f_m_waitTop V65 J Rr) fun z88 => (if z88 = 2 then calR (f_m_waitTop V65 J Rr) fun z90 => calUM 590295810358705652736 V65 (f_m_notes z90 0 V65 J Rr) fun V91 => rdb (up2 V91 0 11 (z68 - 1)) fun V92 => rc65 V92 else calR (f_m_waitTop V65 J Rr) fun z93 => (if ¬ z93 = 3 then rtn V65 else calR (f_m_waitTop V65 J Rr) fun z95 => calUM 590295810358705652736 V65 (f_m_notes z95 0 V65 J Rr) fun V96 => rdb (up2 V96 0 11 (z68 - 1)) fun V97 => rc65 V97))))))
theorem cl_stop {x : Int} {W X J : Nat → Nat → Int} {R : Nat → Nat → Nat} {n : Nat} (hx : x = 0 ∨ x = 1) (h : lop1 n (clB x J R) W X) (hp : ¬ popc x (wtop W)) : X = W := by
  cases n with
  | zero => exact False.elim h
  | succ n =>
    have h : clB x J R (lop1 n (clB x J R)) W X := h
    unfold clB at h
    obtain ⟨z66, -, -, h⟩ := rdb_g h
    obtain ⟨z67, -, -, h⟩ := rdb_g h
    obtain ⟨z68, -, -, h⟩ := rdb_g h
    obtain ⟨z69, hz, h⟩ := h
    have hz := q_wtop hz
    unfold popc at hp
    rw [← hz] at hp
    by_cases g : z69 < 4
    · rw [if_pos g] at h
      by_cases g0 : x = 0
      · rw [if_pos g0] at h; exact h
      · rw [if_neg g0] at h
        obtain ⟨z72, hz2, h⟩ := h
        have hz2 := q_wtop hz2
        by_cases g2 : z72 = 2
        · exact absurd (Or.inr ⟨by omega, Or.inl (by omega)⟩) hp
        · rw [if_neg g2] at h
          obtain ⟨z77, hz3, h⟩ := h
          have hz3 := q_wtop hz3
          by_cases g3 : z77 = 3
          · exact absurd (Or.inr ⟨by omega, Or.inr (by omega)⟩) hp
          · rw [if_pos g3] at h; exact h
    · rw [if_neg g] at h
      obtain ⟨z82, hz2, h⟩ := h
      have hz2 := q_wtop hz2
      rw [if_neg (by omega)] at h
      by_cases g0 : x = 0
      · rw [if_pos g0] at h; exact h
      · rw [if_neg g0] at h
        obtain ⟨z88, hz3, h⟩ := h
        have hz3 := q_wtop hz3
        rw [if_neg (by omega)] at h
        obtain ⟨z93, hz4, h⟩ := h
        have hz4 := q_wtop hz4
        rw [if_pos (by omega)] at h
        exact h
theorem cl_go {x : Int} {W X J : Nat → Nat → Int} {R : Nat → Nat → Nat} {n : Nat} (hx : x = 0 ∨ x = 1) (h : lop1 n (clB x J R) W X) (hp : popc x (wtop W)) : ∃ m : Nat, lop1 m (clB x J R) (clo W (wtop W)) X := by
  cases n with
  | zero => exact False.elim h
  | succ n =>
    have h : clB x J R (lop1 n (clB x J R)) W X := h
    unfold clB at h
    obtain ⟨z66, -, -, h⟩ := rdb_g h
    obtain ⟨z67, -, -, h⟩ := rdb_g h
    obtain ⟨z68, e68, -, h⟩ := rdb_g h
    obtain ⟨z69, hz, h⟩ := h
    have hz := q_wtop hz
    have fin : ∀ (z : Int) (Y : Nat → Nat → Int), f_m_notes z 0 W J R Y → z = wtop W → up2 Y 0 11 (z68 - 1) = clo W (wtop W) := fun z Y hy hzz => by
      rw [q_notes hy, hzz, ← e68]; rfl
    unfold popc at hp
    rw [← hz] at hp
    by_cases g : z69 < 4
    · rw [if_pos g, if_neg (by omega)] at h
      obtain ⟨z72, hz2, h⟩ := h
      have hz2 := q_wtop hz2
      by_cases g2 : z72 = 2
      · rw [if_pos g2] at h
        obtain ⟨z74, hz3, Y, hy, -, h⟩ := h
        have hz3 := q_wtop hz3
        have h : lop1 n (clB x J R) (up2 Y 0 11 (z68 - 1)) X := h
        rw [fin z74 Y hy hz3] at h
        exact ⟨n, h⟩
      · rw [if_neg g2] at h
        obtain ⟨z77, hz3, h⟩ := h
        have hz3 := q_wtop hz3
        rw [if_neg (fun hh => hh (by omega))] at h
        obtain ⟨z79, hz4, Y, hy, -, h⟩ := h
        have hz4 := q_wtop hz4
        have h : lop1 n (clB x J R) (up2 Y 0 11 (z68 - 1)) X := h
        rw [fin z79 Y hy hz4] at h
        exact ⟨n, h⟩
    · rw [if_neg g] at h
      obtain ⟨z82, hz2, h⟩ := h
      have hz2 := q_wtop hz2
      rw [if_pos (by omega)] at h
      obtain ⟨z84, hz3, Y, hy, -, h⟩ := h
      have hz3 := q_wtop hz3
      have h : lop1 n (clB x J R) (up2 Y 0 11 (z68 - 1)) X := h
      rw [fin z84 Y hy hz3] at h
      exact ⟨n, h⟩
theorem cl_all {x : Int} {J X : Nat → Nat → Int} {R : Nat → Nat → Nat} (hx : x = 0 ∨ x = 1) : ∀ (P A : List Int) (n : Nat) (b : Int) (W : Nat → Nat → Int), lop1 n (clB x J R) W X → WS W b (P ++ A) → (∀ o ∈ P, popc x o) → (∀ Y : Nat → Nat → Int, Y 6 = W 6 → WS Y b A → ¬ popc x (wtop Y)) → X = P.foldl clo W := by
  intro P
  induction P with
  | nil =>
    intro A n b W h hW _ hA
    exact cl_stop hx h (hA W rfl hW)
  | cons o P ih =>
    intro A n b W h hW hP hA
    have ho := hP o (List.mem_cons_self ..)
    have ho2 : 0 ≤ o ∧ o ≤ 14 := by unfold popc at ho; omega
    have ht : wtop W = o := WS.top hW ho2
    obtain ⟨m, h⟩ := cl_go hx h (by rw [ht]; exact ho)
    rw [ht] at h
    exact ih A m b (clo W o) h hW.dn (fun q hq => hP q (List.mem_cons_of_mem _ hq)) (fun Y hY hWY => hA Y (hY.trans (clo_r _ _ (by decide) (by decide))) hWY)
theorem CA.fold {t : Nat} {V : Nat → Nat → Int} {L : List Int} : ∀ (P : List Int) (W : Nat → Nat → Int), CA t V W (P ++ L) → (∀ o ∈ P, 2 ≤ o ∧ o ≤ 12) → CA t V (P.foldl clo W) L := by
  intro P
  induction P with
  | nil => intro W h _; exact h
  | cons o P ih => intro W h hP; exact ih (clo W o) (CA.dn h (hP o (List.mem_cons_self ..))) (fun q hq => hP q (List.mem_cons_of_mem _ hq))
theorem WS.fold {b : Int} {A : List Int} : ∀ (P : List Int) (W : Nat → Nat → Int), WS W b (P ++ A) → WS (P.foldl clo W) b A := by
  intro P
  induction P with
  | nil => intro W h; exact h
  | cons o P ih => intro W h; exact ih (clo W o) h.dn
theorem fold_0 {k : Nat} (h1 : k ≠ 10) (h2 : k ≠ 11) : ∀ (P : List Int) (W : Nat → Nat → Int), P.foldl clo W 0 k = W 0 k := by
  intro P
  induction P with
  | nil => intro W; rfl
  | cons o P ih => intro W; exact (ih (clo W o)).trans (clo_0 W o h1 h2)
theorem fold_r {i : Nat} (h1 : i ≠ 0) (h2 : i ≠ 5) : ∀ (P : List Int) (W : Nat → Nat → Int), P.foldl clo W i = W i := by
  intro P
  induction P with
  | nil => intro W; rfl
  | cons o P ih => intro W; exact (ih (clo W o)).trans (clo_r W o h1 h2)
