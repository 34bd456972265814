-- reading: a text, on both sides (own work)
def cpJ (x1 m : Int) : (Int → (Nat → Nat → Int) → Int × (Nat → Nat → Int) → Prop) → Int → (Nat → Nat → Int) → Int × (Nat → Nat → Int) → Prop :=
  (fun rc885 (z883 : Int) (V885 : Nat → Nat → Int) => (if m ≤ z883 then rtn (m, V885) else rdb (V885 7 z883.toNat) fun z896 => rdb (V885 8 z883.toNat) fun z897 => rdb (V885 9 z883.toNat) fun z898 => rdb (V885 10 z883.toNat) fun z899 => rdb (up2 V885 13 ((14 * x1 + z883).toNat) z896) fun V900 => rdb (up2 V900 14 ((14 * x1 + z883).toNat) (220 * x1 + z897)) fun V901 => rdb (up2 V901 15 ((14 * x1 + z883).toNat) (220 * x1 + z898)) fun V902 => rdb (up2 V902 16 ((14 * x1 + z883).toNat) (220 * x1 + z899)) fun V903 => rc885 (z883 + 1) V903))
def cpK (x1 c m : Int) : (Int → (Nat → Nat → Int) → Int × (Nat → Nat → Int) → Prop) → Int → (Nat → Nat → Int) → Int × (Nat → Nat → Int) → Prop :=
  (fun rc795 (z793 : Int) (V795 : Nat → Nat → Int) => (if c ≤ z793 then lop2 (16) (cpJ x1 m) 0 V795 else rdb (V795 5 z793.toNat) fun z904 => rdb (up2 V795 11 ((220 * x1 + z793).toNat) z904) fun V905 => rc795 (z793 + 1) V905))
def rdB (x1 : Int) (J : Nat → Nat → Int) (Rr : Nat → Nat → Nat) : (Int → (Nat → Nat → Int) → Int × (Nat → Nat → Int) → Prop) → Int → (Nat → Nat → Int) → Int × (Nat → Nat → Int) → Prop :=
  (fun rc613 (z611 : Int) (V613 : Nat → Nat → Int) => (if z611 = 0 then rdb (up2 V613 0 4 0) fun V615 => rdb (V615 0 7) fun z616 => rtn (z616, V615) else rdb (V613 0 5) fun z617 => fct (0 ≤ z617 ∧ z617 ≤ 220) <| rdb (V613 0 6) fun z618 => fct (0 ≤ z618 ∧ z618 ≤ 220) <| rdb (V613 0 10) fun z619 => fct (0 ≤ z619 ∧ z619 ≤ 220) <| rdb (V613 0 12) fun z620 => fct (0 ≤ z620 ∧ z620 ≤ 14) <| (if z618 ≤ z617 then rdb (up2 V613 0 4 0) fun V622 => rdb (V622 0 10) fun z623 => fct (0 ≤ z623 ∧ z623 ≤ 220) <| rdb (V622 0 12) fun z624 => fct (0 ≤ z624 ∧ z624 ≤ 14) <| rdb (up2 V622 12 x1.toNat z624) fun V625 => lop2 (222) (cpK x1 z623 z624) 0 V625 else calVM 160 V613 (f_m_takes 59 V613 J Rr) fun z906 V906 => fct (0 ≤ z906 ∧ z906 ≤ 1) <| rdb (V906 0 5) fun z907 => fct (0 ≤ z907 ∧ z907 ≤ 220) <| (if z906 = 0 then rc613 0 V906 else calVM 37188636052598456065952 V906 (f_m_readsClause x1 V906 J Rr) fun z910 V910 => fct (0 ≤ z910 ∧ z910 ≤ 1) <| (if z910 = 0 then rc613 0 V910 else rc613 1 V910)))))
theorem cpJ_all {x m : Nat} : ∀ (n j : Nat) (V X : Nat → Nat → Int) (b : Int), j ≤ m → lop2 n (cpJ x m) (j : Int) V (b, X) → b = m ∧ (∀ i : Nat, i < 13 ∨ 16 < i → X i = V i) ∧ (∀ q : Nat, j ≤ q → q < m → X 13 (14 * x + q) = V 7 q ∧ X 14 (14 * x + q) = 220 * x + V 8 q ∧ X 15 (14 * x + q) = 220 * x + V 9 q ∧ X 16 (14 * x + q) = 220 * x + V 10 q) ∧ ∀ i k : Nat, k < 14 * x + j ∨ 14 * x + m ≤ k → X i k = V i k := by
  intro n
  induction n with
  | zero => intro j V X b _ h; exact False.elim h
  | succ n ih =>
    intro j V X b hj h
    have h : cpJ x m (lop2 n (cpJ x m)) (j : Int) V (b, X) := h
    unfold cpJ at h
    by_cases g : (m : Int) ≤ j
    · rw [if_pos g] at h
      simp only [rtn, Prod.mk.injEq] at h
      obtain ⟨h1, h2⟩ := h
      subst h2
      exact ⟨h1, fun _ _ => rfl, fun q q1 q2 => by omega, fun _ _ _ => rfl⟩
    · rw [if_neg g] at h
      obtain ⟨z1, e1, h⟩ := rdb_g h
      obtain ⟨z2, e2, h⟩ := rdb_g h
      obtain ⟨z3, e3, h⟩ := rdb_g h
      obtain ⟨z4, e4, h⟩ := rdb_g h
      obtain ⟨V1, f1, h⟩ := rdb_g h
      obtain ⟨V2, f2, h⟩ := rdb_g h
      obtain ⟨V3, f3, h⟩ := rdb_g h
      obtain ⟨V4, f4, h⟩ := rdb_g h
      have ek : (14 * (x : Int) + j).toNat = 14 * x + j := by omega
      rw [ek] at f1 f2 f3 f4
      have ej : ((j : Int)).toNat = j := Int.toNat_natCast j
      rw [ej] at e1 e2 e3 e4
      obtain ⟨h1, h2, h3, h4⟩ := ih (j + 1) V4 X b (by omega) (by rw [Int.natCast_add]; exact h)
      have hr : ∀ i : Nat, i < 13 ∨ 16 < i → V4 i = V i := fun i hi => by rw [← f4, up2_c _ _ (by omega), ← f3, up2_c _ _ (by omega), ← f2, up2_c _ _ (by omega), ← f1, up2_c _ _ (by omega)]
      have ho : ∀ i k : Nat, k ≠ 14 * x + j → V4 i k = V i k := fun i k hk => by rw [← f4, up2_n _ _ (Or.inr hk), ← f3, up2_n _ _ (Or.inr hk), ← f2, up2_n _ _ (Or.inr hk), ← f1, up2_n _ _ (Or.inr hk)]
      refine ⟨h1, fun i hi => (h2 i hi).trans (hr i hi), fun q q1 q2 => ?_, fun i k hk => (h4 i k (by omega)).trans (ho i k (by omega))⟩
      by_cases e : q = j
      · subst e
        rw [h4 13 _ (Or.inl (by omega)), h4 14 _ (Or.inl (by omega)), h4 15 _ (Or.inl (by omega)), h4 16 _ (Or.inl (by omega))]
        refine ⟨?_, ?_, ?_, ?_⟩
        · rw [← f4, up2_n _ _ (Or.inl (by decide)), ← f3, up2_n _ _ (Or.inl (by decide)), ← f2, up2_n _ _ (Or.inl (by decide)), ← f1, up2_s, e1]
        · rw [← f4, up2_n _ _ (Or.inl (by decide)), ← f3, up2_n _ _ (Or.inl (by decide)), ← f2, up2_s, e2]
        · rw [← f4, up2_n _ _ (Or.inl (by decide)), ← f3, up2_s, e3]
        · rw [← f4, up2_s, e4]
      · have := h3 q (by omega) q2
        rw [hr 7 (by decide), hr 8 (by decide), hr 9 (by decide), hr 10 (by decide)] at this
        exact this
theorem cpK_all {x m c : Nat} : ∀ (n j : Nat) (V X : Nat → Nat → Int) (b : Int), j ≤ c → lop2 n (cpK x c m) (j : Int) V (b, X) → b = m ∧ (∀ i : Nat, i < 11 ∨ i = 12 ∨ 16 < i → X i = V i) ∧ (∀ q : Nat, j ≤ q → q < c → X 11 (220 * x + q) = V 5 q) ∧ (∀ k : Nat, k < 220 * x + j ∨ 220 * x + c ≤ k → X 11 k = V 11 k) ∧ (∀ q : Nat, q < m → X 13 (14 * x + q) = V 7 q ∧ X 14 (14 * x + q) = 220 * x + V 8 q ∧ X 15 (14 * x + q) = 220 * x + V 9 q ∧ X 16 (14 * x + q) = 220 * x + V 10 q) ∧ ∀ i k : Nat, 13 ≤ i → k < 14 * x ∨ 14 * x + m ≤ k → X i k = V i k := by
  intro n
  induction n with
  | zero => intro j V X b _ h; exact False.elim h
  | succ n ih =>
    intro j V X b hj h
    have h : cpK x c m (lop2 n (cpK x c m)) (j : Int) V (b, X) := h
    unfold cpK at h
    by_cases g : (c : Int) ≤ j
    · rw [if_pos g] at h
      obtain ⟨h1, h2, h3, h4⟩ := cpJ_all 16 0 V X b (by omega) h
      exact ⟨h1, fun i hi => h2 i (by omega), fun q q1 q2 => by omega, fun k hk => by rw [h2 11 (by decide)], fun q hq => h3 q (by omega) hq, fun i k _ hk => h4 i k (by omega)⟩
    · rw [if_neg g] at h
      obtain ⟨z1, e1, h⟩ := rdb_g h
      obtain ⟨V1, f1, h⟩ := rdb_g h
      have ek : (220 * (x : Int) + j).toNat = 220 * x + j := by omega
      rw [ek] at f1
      rw [Int.toNat_natCast j] at e1
      obtain ⟨h1, h2, h3, h4, h5, h6⟩ := ih (j + 1) V1 X b (by omega) (by rw [Int.natCast_add]; exact h)
      have hr : ∀ i : Nat, i ≠ 11 → V1 i = V i := fun i hi => by rw [← f1, up2_c _ _ hi]
      have ho : ∀ k : Nat, k ≠ 220 * x + j → V1 11 k = V 11 k := fun k hk => by rw [← f1, up2_n _ _ (Or.inr hk)]
      refine ⟨h1, fun i hi => (h2 i hi).trans (hr i (by omega)), fun q q1 q2 => ?_, fun k hk => (h4 k (by omega)).trans (ho k (by omega)), fun q hq => ?_, fun i k hi hk => (h6 i k hi hk).trans (by rw [hr i (by omega)])⟩
      · by_cases e : q = j
        · subst e
          rw [h4 _ (Or.inl (by omega)), ← f1, up2_s, e1]
        · rw [h3 q (by omega) q2, hr 5 (by decide)]
      · have := h5 q hq
        rw [hr 7 (by decide), hr 8 (by decide), hr 9 (by decide), hr 10 (by decide)] at this
        exact this
theorem SG.rs {s w : Nat → Int} {tx : Nat} {f t : Int} (h : SG s f t 15) (e : ∀ z : Int, f ≤ z → z < t → stw (s z.toNat) (w (220 * tx + z.toNat))) : RS s w tx f t 1 := by
  obtain ⟨h1, h2, h3, τ, h4, h5, h6⟩ := h
  refine ⟨τ, h4, h5, fun z a b => ?_⟩
  obtain ⟨op, v, w1, w2⟩ := e z a b
  refine ⟨op, v, w1, w2, ?_⟩
  obtain ⟨k1, k2, k3, k4, k5⟩ := w2
  have hf := fc_b v.toNat
  have hop : s z.toNat % 16 = op := by rcases k5 with ⟨-, k5⟩ | ⟨k5, -, k6⟩ <;> omega
  have := h6 z a b
  rw [hop] at this
  unfold sTy
  rcases this with ⟨g1 | g1, g2, g3, g4⟩ | ⟨g1, g2, g3, g4, g5⟩
  · exact Or.inl ⟨g1, g2, by omega, g4⟩
  · refine Or.inr (Or.inl ⟨g1, ?_, g2, by omega, g4⟩)
    rcases k5 with ⟨k5, -⟩ | ⟨-, k5, -⟩
    · exact absurd g1 k5
    · exact k5
  · exact Or.inr (Or.inr (Or.inl ⟨g1, g2, g3, by omega, g5⟩))
theorem CG.rs {s w : Nat → Int} {tx : Nat} {f t : Int} (h : CG s f t) (e : ∀ z : Int, f ≤ z → z < t → stw (s z.toNat) (w (220 * tx + z.toNat))) : RS s w tx f t (-1) := by
  obtain ⟨h1, h2, τ, h4, h5, h6⟩ := h
  refine ⟨τ, h4, h5, fun z a b => ?_⟩
  obtain ⟨op, v, w1, w2⟩ := e z a b
  refine ⟨op, v, w1, w2, ?_⟩
  obtain ⟨k1, k2, k3, k4, k5⟩ := w2
  have hf := fc_b v.toNat
  have hop : s z.toNat % 16 = op := by rcases k5 with ⟨-, k5⟩ | ⟨k5, -, k6⟩ <;> omega
  have this := h6 z a b
  unfold cgS at this
  rw [hop] at this
  unfold sTy
  rcases this with ⟨g1 | g1, g2, g3, g4⟩ | ⟨g1, g2, g3, g4, g5⟩ | ⟨g1, g2, g3, g4⟩ | ⟨g1, g2, g3⟩ | ⟨g1, g2, g3, g4, g5, g6⟩
  · exact Or.inl ⟨g1, g2, by omega, g4⟩
  · refine Or.inr (Or.inl ⟨g1, ?_, g2, by omega, g4⟩)
    rcases k5 with ⟨k5, -⟩ | ⟨-, k5, -⟩
    · exact absurd g1 k5
    · exact k5
  · exact Or.inr (Or.inr (Or.inl ⟨g1, g2, g3, by omega, g5⟩))
  · exact Or.inr (Or.inr (Or.inr (Or.inl ⟨g1, g2, g3, g4⟩)))
  · exact Or.inr (Or.inr (Or.inr (Or.inr (Or.inl ⟨g1, g2, g3⟩))))
  · have hv : s z.toNat / 16 = v := by
      rcases k5 with ⟨-, k5⟩ | ⟨k5, -⟩
      · omega
      · omega
    rw [hv] at g4 g5 g6
    exact Or.inr (Or.inr (Or.inr (Or.inr (Or.inr ⟨g1, g2, g3, g4, g5, g6⟩))))
/-- what was read is the text on both sides -/
theorem CL.rt {t x n : Nat} {V Y X : Nat → Nat → Int} (h : CL t V Y n) (h11 : ∀ q : Nat, (q : Int) < Y 0 10 → X 11 (220 * x + q) = Y 5 q) (h12 : X 12 x = n) (h13 : ∀ q : Nat, q < n → X 13 (14 * x + q) = Y 7 q ∧ X 14 (14 * x + q) = 220 * x + Y 8 q ∧ X 15 (14 * x + q) = 220 * x + Y 9 q ∧ X 16 (14 * x + q) = 220 * x + Y 10 q) : RTz t x V X := by
  obtain ⟨c1, c2, c3, c4, c5, c6, c7, c8, c9⟩ := h
  have cp := c1.2.2.1
  have cl : V t 1 = Y 0 10 := by have := c2.2.1; simpa using this
  have cl0 := c2.1
  refine ⟨by rw [c5, h12], by omega, by omega, fun j hj => ?_⟩
  have hj : j < n := by omega
  obtain ⟨l1, l2, l3, l4, l5, l6, l7⟩ := c9 j hj
  obtain ⟨k1, k2, k3, k4⟩ := h13 j hj
  have a1 := l6.1
  have a2 := l6.2.1
  have a3 := l7.2.1
  refine ⟨by rw [l1, k1], by rw [l2, k2], by rw [l3, k3], by rw [l4, k4], a1, by omega, by omega, l5, l6.rs fun z za zb => ?_, l7.rs fun z za zb => ?_⟩
  · rw [h11 z.toNat (by omega)]
    exact c2.2.2.1 z.toNat (by omega)
  · rw [h11 z.toNat (by omega)]
    exact c2.2.2.1 z.toNat (by omega)
/-- the tape is the same -/
def TP (V W : Nat → Nat → Int) : Prop := V 58 1 = W 0 4 ∧ (0 ≤ W 0 4 ∧ W 0 4 ≤ 220) ∧ ∀ k : Nat, (k : Int) < W 0 4 → V 59 k = iAnd (W 4 k) 255
/-- of the texts, the x-th alone may be another -/
def CHG (x : Nat) (W X : Nat → Nat → Int) : Prop := (∀ i : Nat, 17 ≤ i → X i = W i) ∧ (∀ k : Nat, k < 220 * x ∨ 220 * x + 220 ≤ k → X 11 k = W 11 k) ∧ (∀ k : Nat, k ≠ x → X 12 k = W 12 k) ∧ ∀ i k : Nat, 13 ≤ i → k < 14 * x ∨ 14 * x + 14 ≤ k → X i k = W i k
theorem RTz.other {t tx x : Nat} {Vx Vm Ux Um : Nat → Nat → Int} (h : RTz t tx Vx Vm) (hne : tx ≠ x) (hx : ∀ i : Nat, t ≤ i → i ≤ t + 4 → Ux i = Vx i) (hm : CHG x Vm Um) : RTz t tx Ux Um := by
  obtain ⟨h1, h2, h3, h4⟩ := h
  obtain ⟨m1, m2, m3, m4⟩ := hm
  have rs : ∀ f g e : Int, 0 ≤ f → g ≤ 220 → RS (Vx (t + 1)) (Vm 11) tx f g e → RS (Vx (t + 1)) (Um 11) tx f g e := fun f g e hf hg ⟨τ, k1, k2, k3⟩ => ⟨τ, k1, k2, fun z a b => by
    rw [m2 (220 * tx + z.toNat) (by omega)]
    exact k3 z a b⟩
  refine ⟨?_, ?_, ?_, fun j hj => ?_⟩
  · rw [hx t (by omega) (by omega), m3 tx hne]; exact h1
  · rw [hx t (by omega) (by omega)]; exact h2
  · rw [hx t (by omega) (by omega)]; exact h3
  · rw [hx t (by omega) (by omega)] at hj
    obtain ⟨r1, r2, r3, r4, r5, r6, r7, r8, r9, r10⟩ := h4 j hj
    unfold RC1
    rw [hx t (by omega) (by omega), hx (t + 1) (by omega) (by omega), hx (t + 2) (by omega) (by omega), hx (t + 3) (by omega) (by omega), hx (t + 4) (by omega) (by omega)]
    have e : ∀ i : Nat, 13 ≤ i → Um i (14 * tx + j) = Vm i (14 * tx + j) := fun i hi => m4 i _ hi (by omega)
    rw [e 13 (by decide), e 14 (by decide), e 15 (by decide), e 16 (by decide)]
    exact ⟨r1, r2, r3, r4, r5, r6, r7, r8, rs _ _ _ (by omega) (by omega) r9, rs _ _ _ (by omega) (by omega) r10⟩
theorem rows11 {m : Nat} {W X : Nat → Nat → Int} (h : FBm m W X) (hm : m < 2 ^ 75) : ∀ i : Nat, 11 ≤ i → X i = W i := fun i hi => h.row fun k => by
  rw [mkey_r (by omega)]
  exact Nat.testBit_lt_two_pow (Nat.lt_of_lt_of_le hm (Nat.pow_le_pow_right (by decide) (by omega)))
/-- the reference's loop over clauses -/
theorem q_reads {x n b : Int} {W J X : Nat → Nat → Int} {R : Nat → Nat → Nat} (hn : 1 ≤ n ∧ n ≤ 200) (hnt : n ≤ W 0 4) (h : f_m_reads x n W J R (b, X)) : ∃ (y : Int) (Y : Nat → Nat → Int) (k : Nat), f_m_readsClause x (up2 (up2 (up2 (up2 W 0 5 0) 0 6 n) 0 10 0) 0 12 0) J R (y, Y) ∧ FBm 37188636052598456065952 (up2 (up2 (up2 (up2 W 0 5 0) 0 6 n) 0 10 0) 0 12 0) Y ∧ lop2 k (rdB x J R) y Y (b, X) := by
  unfold f_m_reads at h
  obtain ⟨z1, h1, -, h⟩ := h
  have e1 : z1 = 1 := by
    unfold f_m_in at h1
    rw [if_neg (by omega), if_neg (by omega)] at h1
    exact h1
  rw [if_neg (by omega)] at h
  obtain ⟨z4, e4, -, h⟩ := rdb_g h
  rw [if_pos (by omega)] at h
  obtain ⟨V6, e6, h⟩ := rdb_g h
  obtain ⟨V7, e7, h⟩ := rdb_g h
  obtain ⟨V8, e8, h⟩ := rdb_g h
  obtain ⟨V9, e9, h⟩ := rdb_g h
  obtain ⟨y, Y, hY, hF, -, h⟩ := h
  have e : V9 = up2 (up2 (up2 (up2 W 0 5 0) 0 6 n) 0 10 0) 0 12 0 := by rw [← e9, ← e8, ← e7, ← e6]
  rw [e] at hY hF
  exact ⟨y, Y, _, hY, hF, h⟩
