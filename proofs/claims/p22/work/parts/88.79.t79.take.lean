section
-- what is taken on the first side; what can be reckoned on both (own work)
theorem q_take {l m : Nat} {V J U : Nat → Nat → Int} {R : Nat → Nat → Nat} {N : Nat → Int} (hl : l < 4) (hm : m ≤ 3) (hR : RLz 1 V N) (hlen : m ≤ (lwl N 8).length) (h : f_s_take 1 (l : Int) (m : Int) V J R U) :
    (∀ i : Nat, i ≠ 98 → i ≠ 103 → i ≠ 104 → U i = V i) ∧ (U 98 8 = m ∧ U 98 9 = l ∧ U 98 10 = N l ∧ U 98 11 = N (4 + l) ∧ U 98 12 = kndS (N (12 + l)) (N (16 + l)) ∧ U 98 13 = N (8 + l) ∧ U 98 15 = 0) ∧ ∀ j : Nat, j < m → U 103 j = zLw N j ∧ U 104 j = N (52 + (zLw N j).toNat) := by
  obtain ⟨hPl, hPe, -⟩ := hR
  have pl := hPl l hl
  rw [show 1 + 3 + 2 * l = 4 + 2 * l by omega] at pl
  obtain ⟨-, p1, p2, p3, p4, p5, -⟩ := pl
  unfold f_s_take at h
  obtain ⟨c, ec, h⟩ := rdb_g h
  rw [Int.toNat_natCast] at ec
  have ec : c = 4 + 2 * l := by omega
  subst ec
  have c98 : (4 + 2 * l) ≠ 98 := by omega
  obtain ⟨V2, e2, h⟩ := rdb_g h
  obtain ⟨z3, e3, h⟩ := rdb_g h
  obtain ⟨V4, e4, h⟩ := rdb_g h
  obtain ⟨z5, e5, h⟩ := rdb_g h
  obtain ⟨V6, e6, h⟩ := rdb_g h
  obtain ⟨z7, e7, h⟩ := rdb_g h
  obtain ⟨V8, e8, h⟩ := rdb_g h
  obtain ⟨z9, e9, h⟩ := rdb_g h
  obtain ⟨z10, e10, h⟩ := rdb_g h
  obtain ⟨z11, k11, -, h⟩ := h
  have k11 := q_kindOf k11
  obtain ⟨V12, e12, h⟩ := rdb_g h
  obtain ⟨z13, e13, h⟩ := rdb_g h
  obtain ⟨-, h⟩ := h
  obtain ⟨V14, e14, h⟩ := rdb_g h
  obtain ⟨V15, e15, h⟩ := rdb_g h
  rw [← e2, up2_c _ _ c98, p1] at e3
  rw [← e4, up2_c _ _ c98, ← e2, up2_c _ _ c98, p2] at e5
  rw [← e6, up2_c _ _ c98, ← e4, up2_c _ _ c98, ← e2, up2_c _ _ c98, p3] at e7
  rw [← e8, up2_c _ _ c98, ← e6, up2_c _ _ c98, ← e4, up2_c _ _ c98, ← e2, up2_c _ _ c98, p4] at e9
  rw [← e8, up2_c _ _ c98, ← e6, up2_c _ _ c98, ← e4, up2_c _ _ c98, ← e2, up2_c _ _ c98, p5] at e10
  rw [← e9, ← e10] at k11
  have e13 : z13 = (m : Int) := by omega
  subst e13
  have o15 : ∀ i : Nat, i ≠ 98 → V15 i = V i := fun i hi => by rw [← e15, up2_c _ _ hi, ← e14, up2_c _ _ hi, ← e12, up2_c _ _ hi, ← e8, up2_c _ _ hi, ← e6, up2_c _ _ hi, ← e4, up2_c _ _ hi, ← e2, up2_c _ _ hi]
  have a15 : V15 98 8 = m ∧ V15 98 9 = l ∧ V15 98 10 = N l ∧ V15 98 11 = N (4 + l) ∧ V15 98 12 = kndS (N (12 + l)) (N (16 + l)) ∧ V15 98 13 = N (8 + l) ∧ V15 98 15 = 0 := by
    rw [← e15, ← e14, ← e12, ← e8, ← e6, ← e4, ← e2]
    refine ⟨?_, ?_, ?_, ?_, ?_, ?_, ?_⟩
    · rw [up2_n _ _ (Or.inr (by decide)), up2_s]
    · rw [up2_n _ _ (Or.inr (by decide)), up2_n _ _ (Or.inr (by decide)), up2_n _ _ (Or.inr (by decide)), up2_n _ _ (Or.inr (by decide)), up2_n _ _ (Or.inr (by decide)), up2_n _ _ (Or.inr (by decide)), up2_s]
    · rw [up2_n _ _ (Or.inr (by decide)), up2_n _ _ (Or.inr (by decide)), up2_n _ _ (Or.inr (by decide)), up2_n _ _ (Or.inr (by decide)), up2_n _ _ (Or.inr (by decide)), up2_s]; exact e3.symm
    · rw [up2_n _ _ (Or.inr (by decide)), up2_n _ _ (Or.inr (by decide)), up2_n _ _ (Or.inr (by decide)), up2_n _ _ (Or.inr (by decide)), up2_s]; exact e5.symm
    · rw [up2_n _ _ (Or.inr (by decide)), up2_n _ _ (Or.inr (by decide)), up2_s]; exact k11
    · rw [up2_n _ _ (Or.inr (by decide)), up2_n _ _ (Or.inr (by decide)), up2_n _ _ (Or.inr (by decide)), up2_s]; exact e7.symm
    · rw [up2_s]
  clear e15 e14 e12 e8 e6 e4 e2 e3 e5 e7 e9 e10 k11
  obtain ⟨V16, k16, -, h⟩ := h
  obtain ⟨f1, f2⟩ := q_fillLowest (b := 1) (N := N) (by decide) (fun p hp => by rw [o15 _ (by omega)]; exact (hPe p hp).1) hm k16
  have a16 : V16 98 = V15 98 := f1 98 (by decide)
  obtain ⟨bb, hbb, h⟩ := lop2_g h
  have key : ∀ (f i : Nat) (Y : Nat → Nat → Int), i ≤ m → (∀ j : Nat, j ≠ 104 → Y j = V16 j) → (∀ j : Nat, j < i → Y 104 j = N (52 + (zLw N j).toNat)) → lop2 f bb (i : Int) Y U → (∀ j : Nat, j ≠ 104 → U j = V16 j) ∧ ∀ j : Nat, j < m → U 104 j = N (52 + (zLw N j).toNat) := by
    intro f
    induction f with
    | zero => intro i Y _ _ _ h; exact False.elim h
    | succ f ih =>
      intro i Y hi hY hj h
      rw [lop2_s hbb] at h
      obtain ⟨-, h⟩ := h
      rw [hY 98 (by decide), a16, a15.1] at h
      by_cases g : (m : Int) ≤ i
      · rw [if_pos g] at h
        have h : U = Y := h
        subst h
        exact ⟨hY, fun j hjm => hj j (by omega)⟩
      · rw [if_neg g] at h
        obtain ⟨w, ew, h⟩ := rdb_g h
        rw [hY 103 (by decide), Int.toNat_natCast, f2 i (by omega) (by omega)] at ew
        subst ew
        obtain ⟨-, h⟩ := h
        obtain ⟨c, ec, h⟩ := rdb_g h
        have ec : c = 12 + (zLw N i).toNat := by omega
        subst ec
        obtain ⟨v, ev, h⟩ := rdb_g h
        have zr := zLw_r (N := N) i
        have pe := hPe (zLw N i).toNat (by omega)
        rw [show 1 + 11 + (zLw N i).toNat = 12 + (zLw N i).toNat by omega] at pe
        rw [hY _ (by omega), f1 _ (by omega), o15 _ (by omega), pe.2.1] at ev
        obtain ⟨Y2, e2, h⟩ := rdb_g h
        rw [Int.toNat_natCast] at e2
        rw [show ((i : Int) + 1) = ((i + 1 : Nat) : Int) by omega] at h
        refine ih (i + 1) Y2 (by omega) (fun j hjn => by rw [← e2, up2_c _ _ hjn]; exact hY j hjn) (fun j hjn => ?_) h
        rw [← e2, up2_row]
        by_cases e : j = i
        · subst e; rw [up1_s, ev]
        · rw [up1_n _ _ e]; exact hj j (by omega)
  obtain ⟨g1, g2⟩ := key 5 0 V16 (Nat.zero_le _) (fun _ _ => rfl) (fun j hj => by omega) h
  refine ⟨fun i i1 i2 i3 => by rw [g1 i i3, f1 i i2, o15 i i1], ?_, fun j hj => ⟨?_, g2 j hj⟩⟩
  · rw [g1 98 (by decide), a16]; exact a15
  · rw [g1 103 (by decide)]; exact f2 j hj (by omega)
/-- PLANTS as they can be: a POT that holds, never DRY and DROWNED at once; tenths -/
def zEw (N : Nat → Int) : Prop := (∀ l : Nat, l < 4 → bt (N 76) (l : Int) = 1 → 4 ≤ N l ∧ N (4 + l) ≤ N l ∧ 1 ≤ N (8 + l) ∧ (N (12 + l) = 0 ∨ N (16 + l) = 0)) ∧ ∀ p : Nat, p < 8 → 0 ≤ N (52 + p) ∧ N (52 + p) ≤ 10
/-- what is there to reckon with, on both sides: PLANT l, n DAYS, m PEOPLE -/
def zCn (N : Nat → Int) (l n m : Nat) : Prop := l < 4 ∧ (1 ≤ n ∧ n ≤ 9) ∧ (1 ≤ m ∧ m ≤ 3) ∧ n * (m + 1) ≤ 18 ∧ m ≤ (lwl N 8).length ∧ bt (N 76) (l : Int) = 1 ∧ ¬ bt (N 77) (l : Int) = 1
theorem w_go {l n m z y : Int} {V J W Jm X : Nat → Nat → Int} {R Rm : Nat → Nat → Nat} (h : RLz 1 V (W 1)) (hx : f_s_canReckon l n m V J R z) (hm : f_m_canGo l n m W Jm Rm (y, X)) : z = y ∧ (∀ i : Nat, i ≠ 0 → i ≠ 20 → i ≠ 21 → X i = W i) ∧ (∀ k : Nat, k ≠ 33 → k ≠ 34 → X 0 k = W 0 k) ∧
    (y = 0 ∨ y = 1 ∧ ∃ l2 n2 m2 : Nat, l = (l2 : Int) ∧ n = (n2 : Int) ∧ m = (m2 : Int) ∧ zCn (W 1) l2 n2 m2 ∧ X 0 33 = l ∧ X 0 34 = W 1 (4 + l2) ∧ ∀ j : Nat, j < m2 → X 20 j = zLw (W 1) j ∧ X 21 j = W 1 (52 + (zLw (W 1) j).toNat)) := by
  unfold f_s_canReckon at hx
  unfold f_m_canGo at hm
  obtain ⟨x1, a1, -, hx⟩ := hx
  obtain ⟨y1, b1, -, hm⟩ := hm
  have e1 := (q_sAlive a1).eq (q_mLives b1) h.isA
  have q1 := q_mLives b1
  have no : ∀ X2 : Nat → Nat → Int, (∀ i : Nat, i ≠ 0 → i ≠ 20 → i ≠ 21 → X2 i = W i) → (∀ k : Nat, k ≠ 33 → k ≠ 34 → X2 0 k = W 0 k) → z = 0 → rtn (0, X2) (y, X) → z = y ∧ (∀ i : Nat, i ≠ 0 → i ≠ 20 → i ≠ 21 → X i = W i) ∧ (∀ k : Nat, k ≠ 33 → k ≠ 34 → X 0 k = W 0 k) ∧
    (y = 0 ∨ y = 1 ∧ ∃ l2 n2 m2 : Nat, l = (l2 : Int) ∧ n = (n2 : Int) ∧ m = (m2 : Int) ∧ zCn (W 1) l2 n2 m2 ∧ X 0 33 = l ∧ X 0 34 = W 1 (4 + l2) ∧ ∀ j : Nat, j < m2 → X 20 j = zLw (W 1) j ∧ X 21 j = W 1 (52 + (zLw (W 1) j).toNat)) := fun X2 h1 h2 hz hh => by
    simp only [rtn, Prod.mk.injEq] at hh
    obtain ⟨rfl, rfl⟩ := hh
    exact ⟨hz, h1, h2, Or.inl rfl⟩
  by_cases g1 : y1 = 0
  · rw [if_pos (by omega)] at hx
    rw [if_pos g1] at hm
    exact no W (fun _ _ _ _ => rfl) (fun _ _ _ => rfl) hx hm
  rw [if_neg (by omega)] at hx
  rw [if_neg g1] at hm
  have liv : (0 ≤ l ∧ l < 4 ∧ bt (W 1 76) l = 1) ∧ ¬ bt (W 1 77) l = 1 := by
    rcases q1 with ⟨-, q⟩ | ⟨q, -⟩
    · exact q
    · exact absurd q g1
  obtain ⟨l2, rfl⟩ : ∃ l2 : Nat, l = (l2 : Int) := ⟨l.toNat, by omega⟩
  obtain ⟨_, -, -, hm⟩ := rdb_g hm
  obtain ⟨_, -, -, hm⟩ := rdb_g hm
  obtain ⟨x2, a2, -, hx⟩ := hx
  obtain ⟨y2, b2, -, hm⟩ := hm
  have e2 := (q_within a2).eq (q_in b2) Iff.rfl
  have q2 := q_in b2
  by_cases g2 : y2 = 0
  · rw [if_pos (by omega)] at hx
    rw [if_pos g2] at hm
    exact no W (fun _ _ _ _ => rfl) (fun _ _ _ => rfl) hx hm
  rw [if_neg (by omega)] at hx
  rw [if_neg g2] at hm
  have hn : 1 ≤ n ∧ n ≤ 9 := by
    rcases q2 with ⟨-, q⟩ | ⟨q, -⟩
    · exact q
    · exact absurd q g2
  obtain ⟨n2, rfl⟩ : ∃ n2 : Nat, n = (n2 : Int) := ⟨n.toNat, by omega⟩
  obtain ⟨x3, a3, -, hx⟩ := hx
  obtain ⟨y3, b3, -, hm⟩ := hm
  unfold f_s_areTold at a3
  obtain ⟨x4, a4, -, a3⟩ := a3
  have e3 := (q_within a4).eq (q_in b3) Iff.rfl
  have q3 := q_in b3
  by_cases g3 : y3 = 0
  · rw [if_pos (by omega)] at a3
    have a3 : x3 = 0 := a3
    rw [if_pos a3] at hx
    rw [if_pos g3] at hm
    exact no W (fun _ _ _ _ => rfl) (fun _ _ _ => rfl) hx hm
  rw [if_neg (by omega)] at a3
  rw [if_neg g3] at hm
  have hmm : 1 ≤ m ∧ m ≤ 3 := by
    rcases q3 with ⟨-, q⟩ | ⟨q, -⟩
    · exact q
    · exact absurd q g3
  obtain ⟨m2, rfl⟩ : ∃ m2 : Nat, m = (m2 : Int) := ⟨m.toNat, by omega⟩
  obtain ⟨told, et, a3⟩ := rdb_g a3
  have ln := lwl_n (N := W 1)
  rw [h.2.2.1, ← ln] at et
  obtain ⟨p, ep, -, hm⟩ := rdb_g hm
  have epn : p = ((n2 * (m2 + 1) : Nat) : Int) := by rw [← ep]; simp
  by_cases g5 : told < (m2 : Int)
  · rw [if_pos g5] at a3
    have a3 : x3 = 0 := a3
    rw [if_pos a3] at hx
    by_cases g6 : 18 < p
    · rw [if_pos g6] at hm
      exact no W (fun _ _ _ _ => rfl) (fun _ _ _ => rfl) hx hm
    rw [if_neg g6] at hm
    obtain ⟨y7, X7, b7, -, -, hm⟩ := hm
    obtain ⟨c1, c2, -⟩ := q_laysSome (by omega) b7
    rw [if_neg (by omega)] at c1
    rw [if_neg (fun hh => hh c1)] at hm
    exact no X7 (fun i i1 i2 i3 => c2 i i2 i3) (fun k _ _ => by rw [c2 0 (by decide) (by decide)]) hx hm
  rw [if_neg g5] at a3
  have a3 : x3 = 1 := a3
  rw [if_neg (by omega)] at hx
  obtain ⟨px, epx, -, hx⟩ := rdb_g hx
  have e4 : px = p := by rw [← epx, ← ep]
  subst e4
  by_cases g6 : 18 < px
  · rw [if_pos g6] at hx hm
    exact no W (fun _ _ _ _ => rfl) (fun _ _ _ => rfl) hx hm
  rw [if_neg g6] at hx hm
  have hx : z = 1 := hx
  obtain ⟨y7, X7, b7, -, -, hm⟩ := hm
  obtain ⟨c1, c2, c3⟩ := q_laysSome (by omega) b7
  rw [if_pos (by omega)] at c1
  rw [if_pos (by omega)] at hm
  obtain ⟨X8, e8, hm⟩ := rdb_g hm
  obtain ⟨w, ew, hm⟩ := rdb_g hm
  rw [← e8, up2_c _ _ (by decide), c2 1 (by decide) (by decide), show ((l2 : Int) + 4).toNat = 4 + l2 by omega] at ew
  subst ew
  obtain ⟨-, hm⟩ := hm
  simp only [rdb, rtn, Prod.mk.injEq] at hm
  obtain ⟨rfl, hX⟩ := hm
  have xo : ∀ i : Nat, i ≠ 0 → X i = X7 i := fun i hi => by rw [hX, up2_c _ _ hi, ← e8, up2_c _ _ hi]
  refine ⟨hx, fun i i1 i2 i3 => by rw [xo i i1]; exact c2 i i2 i3, fun k k1 k2 => ?_, Or.inr ⟨rfl, l2, n2, m2, rfl, rfl, rfl, ⟨by omega, by omega, by omega, by omega, by omega, liv.1.2.2, liv.2⟩, ?_, ?_, fun j hj => ?_⟩⟩
  · rw [hX, up2_n _ _ (Or.inr k2), ← e8, up2_n _ _ (Or.inr k1), c2 0 (by decide) (by decide)]
  · rw [hX, up2_n _ _ (Or.inr (by decide)), ← e8, up2_s]
  · rw [hX, up2_s]
  · rw [xo 20 (by decide), xo 21 (by decide)]
    exact c3 (by omega) j hj
end
section
-- how likely it lives: both sides alike (own work)
theorem zDs_c {bears pot : Int} {c c2 : Nat → Int} {m : Nat} {g g2 : Nat → Nat → Nat → Int} {e h e2 h2 : Nat → Nat → Int} {L : Nat → Int} (hc : ∀ j : Nat, j < m → c j = c2 j) : ∀ (r d : Nat), (∀ q j : Nat, q < d + r → j < m → g q j = g2 q j) → (∀ q : Nat, e q = e2 q ∧ h q = h2 q) → zDs bears pot c m g e h r d L = zDs bears pot c2 m g2 e2 h2 r d L
  | 0, _, _, _ => rfl
  | r + 1, d, hg, he => by
    show zPs _ _ _ _ m 0 (zTd _ _ (e d) (h d) _) = zPs _ _ _ _ m 0 (zTd _ _ (e2 d) (h2 d) _)
    rw [(he d).1, (he d).2, zDs_c hc r (d + 1) (fun q j hq hj => hg q j (by omega) hj) he, zPs_c m 0 (fun j _ hj => ⟨hc j (by omega), hg d j (by omega) (by omega)⟩)]
/-- the first side as the reference has it: PLANT l, PEOPLE as in rows 20, 21 -/
def zLk (R : Nat → Nat → Nat) (V W : Nat → Nat → Int) (l : Nat) (fx : Int) (m : Nat) : Prop :=
  (RTx R V W ∧ zLq V ∧ zCr R ∧ l < 4) ∧ (V 98 8 = m ∧ V 98 9 = l ∧ V 98 10 = W 1 l ∧ min (V 98 11) (V 98 10) = W 1 (4 + l) ∧ V 98 12 = kndS (W 1 (12 + l)) (W 1 (16 + l)) ∧ V 98 13 = W 1 (8 + l) ∧ V 98 15 = fx ∧ (fx ≤ 0 ∨ V 98 14 = W 0 32)) ∧ (V 1 3 = W 1 79 ∧ V 1 2 = cnt (W 1 78) ∧ ∀ p : Nat, p < 8 → V (12 + p) 2 = W 1 (60 + p)) ∧
  (∀ j : Nat, j < m → V 103 j = W 20 j ∧ V 104 j = W 21 j) ∧ (W 0 33 = l ∧ W 0 34 = W 1 (4 + l) ∧ ((W 0 31 = -1 ∧ fx = 0) ∨ (1 ≤ W 0 31 ∧ W 0 31 ≤ 9 ∧ fx = W 0 31))) ∧
  (0 ≤ V 98 11 ∧ V 98 11 ≤ 24) ∧ (4 ≤ W 1 l ∧ W 1 l ≤ 24) ∧ (1 ≤ W 1 (8 + l) ∧ W 1 (8 + l) ≤ 9) ∧ (0 ≤ W 1 79 ∧ W 1 79 ≤ 9999) ∧ (∀ i : Nat, i < m → (0 ≤ W 21 i ∧ W 21 i ≤ 10) ∧ 0 ≤ W 20 i ∧ W 20 i ≤ 7) ∧
  (0 ≤ W 1 (12 + l) ∧ W 1 (12 + l) < W 1 (8 + l)) ∧ (0 ≤ W 1 (16 + l) ∧ W 1 (16 + l) < W 1 (8 + l)) ∧ (W 1 (12 + l) = 0 ∨ W 1 (16 + l) = 0)
/-- what both come to -/
def zVl (R : Nat → Nat → Nat) (V W : Nat → Nat → Int) (l : Nat) (fx : Int) (m n : Nat) : Int := zDs (W 1 (8 + l)) (W 1 l) (fun i => W 21 i) m (gvD R V W l fx) (goD R V W l 101) (goD R V W l 104) n 0 (alv (W 1 (8 + l))) (25 * kndS (W 1 (12 + l)) (W 1 (16 + l)) + W 1 (4 + l)).toNat
theorem z_s {n m l : Nat} {fx a : Int} {V J U J2 W : Nat → Nat → Int} {R R2 : Nat → Nat → Nat} (hL : zLk R V W l fx m) (hm3 : m ≤ 3) (hn : n ≤ 9) (hnm : n * (m + 1) ≤ 18) (hx : f_s_lives 1 (n : Int) V J R (a, (U, J2, R2))) : a = zVl R V W l fx m n ∧ J2 98 16 = p10 (n * (m + 1)) ∧ zCr R2 ∧ zFz V U R R2 := by
  obtain ⟨⟨a1, a2, a3, a4⟩, ⟨b1, b2, b3, b4, b5, b6, b7, b8⟩, ⟨c1, c2, c3⟩, d1, ⟨e1, e2, e3⟩, f1, f2, f3, f4, f5, f6, f7, f8⟩ := hL
  have cr := cnt_r (W 1 78)
  have kr := kndS_r (x := W 1 (12 + l)) (y := W 1 (16 + l))
  obtain ⟨r1, r2, r3, r4⟩ := q_lives hx a3 a2 a1.1.1 (fun k hk => (a1.2 k hk).1) b1 hm3 hn hnm (by rw [b3]; omega) f1 (by rw [b5]; exact kr) (by rw [b7]; omega) (by rw [b2]; exact ⟨by omega, by omega⟩) (by rw [c1]; exact f4) (by rw [c2]; exact ⟨by omega, by omega⟩) (fun i hi => by rw [(d1 i hi).2]; exact (f5 i hi).1)
  refine ⟨?_, r2, r3, r4⟩
  rw [r1]
  unfold lvF zVl
  rw [b4, b3, b5, b6]
  refine congrFun (zDs_c (fun j hj => (d1 j hj).2) n 0 (fun q j _ hj => funext fun s => ?_) (fun q => ⟨funext fun s => ?_, funext fun s => ?_⟩)) _
  · unfold gvF gvD
    have := f5 j hj
    rw [(d1 j hj).1, (d1 j hj).2, c3 _ (by omega), b2, b3, ← b3, b4, b3, c1, c2, b7, e2]
    unfold gvS
    by_cases g : fx ≤ 0
    · rw [if_pos g, if_pos g]
    · rw [if_neg g, if_neg g]
      rcases b8 with h | h
      · exact absurd h g
      · rw [h]
  · unfold goF goD
    rw [b4, b2, b3, c1, c2, e2]
  · unfold goF goD
    rw [b4, b2, b3, c1, c2, e2]
set_option maxRecDepth 100000 in
theorem z_m {n m l : Nat} {fx b : Int} {V W Jm X J2 : Nat → Nat → Int} {R Rm R2 : Nat → Nat → Nat} (hL : zLk R V W l fx m) (hm3 : m ≤ 3) (hn : n ≤ 9) (hnm : n * (m + 1) ≤ 18) (hm : f_m_goesThrough (n : Int) (m : Int) W Jm Rm (b, (X, J2, R2))) : b = zVl R V W l fx m n ∧ ∀ j : Nat, j ≠ 17 → j ≠ 18 → X j = W j := by
  obtain ⟨⟨a1, a2, a3, a4⟩, ⟨b1, b2, b3, b4, b5, b6, b7, b8⟩, ⟨c1, c2, c3⟩, d1, ⟨e1, e2, e3⟩, f1, f2, f3, f4, f5, f6, f7, f8⟩ := hL
  exact q_goesThrough (Rx := R) (Vx := V) (fx := fx) hm hm3 hn hnm ⟨a1, a2, e1, a4, by omega, by rw [e2]; omega, by omega, e3⟩ (by omega) f2.1 f3 f4.2 (fun i hi => (f5 i hi).1) (fun i hi => (f5 i hi).2) (by omega) f6 f7 f8
/-- the link stays through a way on either side -/
theorem zLk.s {R R2 : Nat → Nat → Nat} {V U W : Nat → Nat → Int} {l m : Nat} {fx : Int} (h : zLk R V W l fx m) (hF : zFz V U R R2) (hR : zCr R2) : zLk R2 U W l fx m := by
  obtain ⟨⟨a1, a2, a3, a4⟩, ⟨b1, b2, b3, b4, b5, b6, b7, b8⟩, ⟨c1, c2, c3⟩, d1, e, f1, f⟩ := h
  obtain ⟨g1, g2, g3⟩ := hF
  have o : ∀ i : Nat, i < 69 ∨ (73 ≤ i ∧ i ≤ 97) ∨ 103 ≤ i → U i = V i := fun i hi => g1 i (by omega) (by omega) (by omega) (by omega) (by omega) (by omega)
  refine ⟨⟨?_, g1.lq a2, hR, a4⟩, ?_, ?_, ?_, e, ?_, f⟩
  · have k := a1.cg (Ux := U) (Um := W) (fun i i1 i2 i3 => o i (by omega)) (fun _ _ _ => rfl)
    unfold RTx at k ⊢
    rw [g3 60 (by decide), g3 66 (by decide)]
    exact k
  · rw [g2 8 (by decide) (by decide), g2 9 (by decide) (by decide), g2 10 (by decide) (by decide), g2 11 (by decide) (by decide), g2 12 (by decide) (by decide), g2 13 (by decide) (by decide), g2 15 (by decide) (by decide), g2 14 (by decide) (by decide)]
    exact ⟨b1, b2, b3, b4, b5, b6, b7, b8⟩
  · rw [o 1 (by decide)]
    exact ⟨c1, c2, fun p hp => by rw [o _ (by omega)]; exact c3 p hp⟩
  · rw [o 103 (by decide), o 104 (by decide)]
    exact d1
  · rw [g2 11 (by decide) (by decide)]
    exact f1
theorem zLk.m {R : Nat → Nat → Nat} {V W X : Nat → Nat → Int} {l m : Nat} {fx : Int} (h : zLk R V W l fx m) (hX : ∀ j : Nat, j ≠ 17 → j ≠ 18 → X j = W j) : zLk R V X l fx m := by
  obtain ⟨⟨a1, a⟩, r⟩ := h
  unfold zLk
  rw [hX 0 (by decide) (by decide), hX 1 (by decide) (by decide), hX 20 (by decide) (by decide), hX 21 (by decide) (by decide)]
  exact ⟨⟨a1.cg (fun _ _ _ _ => rfl) (fun i i1 i2 => hX i (by omega) (by omega)), a⟩, r⟩
/-- the link as it is laid by take and canGo -/
theorem zLk.t {l n m : Nat} {V J U W X : Nat → Nat → Int} {R : Nat → Nat → Nat} (hR : RLz 1 V (W 1)) (hd : W 1 79 ≤ 9999) (hT : RTx R V W) (hq : zLq V) (hC : zCr R) (hE : zEw (W 1)) (hn : zCn (W 1) l n m) (h31 : W 0 31 = -1) (ht : f_s_take 1 (l : Int) (m : Int) V J R U)
    (hXo : ∀ i : Nat, i ≠ 0 → i ≠ 17 → i ≠ 18 → i ≠ 20 → i ≠ 21 → X i = W i) (h0 : ∀ k : Nat, k ≠ 33 → k ≠ 34 → X 0 k = W 0 k) (h33 : X 0 33 = (l : Int)) (h34 : X 0 34 = W 1 (4 + l)) (hj : ∀ j : Nat, j < m → X 20 j = zLw (W 1) j ∧ X 21 j = W 1 (52 + (zLw (W 1) j).toNat)) : zLk R U X l 0 m ∧ ∀ i : Nat, i ≠ 98 → i ≠ 103 → i ≠ 104 → U i = V i := by
  obtain ⟨n1, n2, n3, n4, n5, n6, n7⟩ := hn
  obtain ⟨t1, ⟨t2, t3, t4, t5, t6, t7, t8⟩, t9⟩ := q_take n1 n3.2 hR n5 ht
  have pl := hR.1 l n1
  obtain ⟨p0, p1, p2, p3, p4, p5, -, -, p8, p9, p10, p11, p12, p13⟩ := pl
  obtain ⟨E1, E2⟩ := hE
  obtain ⟨k1, k2, k3, k4⟩ := E1 l n1 n6
  have x1 : X 1 = W 1 := hXo 1 (by decide) (by decide) (by decide) (by decide) (by decide)
  have al : W 1 (12 + l) < W 1 (8 + l) ∧ W 1 (16 + l) < W 1 (8 + l) := by
    have nd : ¬ dedX (V (1 + 3 + 2 * l)) := fun hh => n7 (p8.mpr hh)
    unfold dedX at nd
    rw [p3, p4, p5] at nd
    have n0 : ¬ V (1 + 3 + 2 * l) 0 = 0 := by rw [p0, n6]; decide
    refine ⟨?_, ?_⟩
    · rcases Int.lt_or_le (W 1 (12 + l)) (W 1 (8 + l)) with h | h
      · exact h
      · exact absurd ⟨n0, Or.inl h⟩ nd
    · rcases Int.lt_or_le (W 1 (16 + l)) (W 1 (8 + l)) with h | h
      · exact h
      · exact absurd ⟨n0, Or.inr h⟩ nd
  rw [p1] at p9
  rw [p2] at p10
  rw [p3] at p11
  rw [p4] at p12
  rw [p5] at p13
  unfold zLk
  rw [x1, h0 31 (by decide) (by decide), h33, h34]
  refine ⟨⟨⟨?_, ?_, hC, n1⟩, ⟨t2, t3, t4, by rw [t5, t4]; omega, t6, t7, t8, Or.inl (Int.le_refl _)⟩, ⟨?_, ?_, fun p hp => ?_⟩, fun j hj2 => ?_, ⟨rfl, rfl, Or.inl ⟨h31, rfl⟩⟩, by rw [t5]; exact p10, ⟨k1, p9.2⟩, ⟨k3, p11.2⟩, ⟨hR.2.2.2.2.2.2.2.2.1, hd⟩, fun j hj2 => ?_, ⟨p12.1, al.1⟩, ⟨p13.1, al.2⟩, k4⟩, t1⟩
  · exact hT.cg (fun i i1 i2 i3 => t1 i (by omega) (by omega) (by omega)) (fun i i1 i2 => hXo i (by omega) (by omega) (by omega) (by omega) (by omega))
  · exact hq.cg fun i i1 i2 i3 => t1 i (by omega) (by omega) (by omega)
  · rw [t1 1 (by decide) (by decide) (by decide)]; exact hR.2.2.2.1
  · rw [t1 1 (by decide) (by decide) (by decide)]; exact hR.2.2.1
  · rw [t1 _ (by omega) (by omega) (by omega)]
    have := (hR.2.1 p hp).2.2.1
    rw [show 1 + 11 + p = 12 + p by omega] at this
    exact this
  · rw [(t9 j hj2).1, (t9 j hj2).2, (hj j hj2).1, (hj j hj2).2]
    exact ⟨rfl, rfl⟩
  · rw [(hj j hj2).1, (hj j hj2).2]
    have zr := zLw_r (N := W 1) j
    exact ⟨E2 _ (by omega), zr⟩
end
section
-- answers: at what chance (own work)
theorem zTp_nn {bears pot c : Int} {g L : Nat → Int} (hc : 0 ≤ c ∧ c ≤ 10) (hL : ∀ s : Nat, 0 ≤ L s) (s : Nat) : 0 ≤ zTp bears pot c g L s := by
  unfold zTp
  split
  · have := hL s; omega
  · have a := Int.mul_nonneg (show 0 ≤ 10 - c by omega) (hL s)
    have b := Int.mul_nonneg hc.1 (hL (toS pot s (g s)))
    omega
theorem zTd_nn {bears pot : Int} {e h L : Nat → Int} (hL : ∀ s : Nat, 0 ≤ L s) (s : Nat) : 0 ≤ zTd bears pot e h L s := by
  unfold zTd
  split
  · have := hL s; omega
  · have a := hL (bhS pot s (e s))
    have b := hL (bhS pot s (e s + h s))
    omega
theorem zPs_nn {bears pot : Int} {c : Nat → Int} {g : Nat → Nat → Int} {L : Nat → Int} (hL : ∀ s : Nat, 0 ≤ L s) : ∀ (k i : Nat), (∀ j : Nat, i ≤ j → j < i + k → 0 ≤ c j ∧ c j ≤ 10) → ∀ s : Nat, 0 ≤ zPs bears pot c g k i L s
  | 0, _, _, s => hL s
  | k + 1, i, h, s => zTp_nn (h i (by omega) (by omega)) (fun s => zPs_nn hL k (i + 1) (fun j j1 j2 => h j (by omega) (by omega)) s) s
theorem zDs_nn {bears pot : Int} {c : Nat → Int} {m : Nat} {g : Nat → Nat → Nat → Int} {e h : Nat → Nat → Int} {L : Nat → Int} (hL : ∀ s : Nat, 0 ≤ L s) (hc : ∀ j : Nat, j < m → 0 ≤ c j ∧ c j ≤ 10) : ∀ (r d s : Nat), 0 ≤ zDs bears pot c m g e h r d L s
  | 0, _, s => hL s
  | r + 1, d, s => zPs_nn (fun s => zTd_nn (fun s => zDs_nn hL hc r (d + 1) s) s) m 0 (fun j _ hj => hc j (by omega)) s
theorem zVl_nn {R : Nat → Nat → Nat} {V W : Nat → Nat → Int} {l m n : Nat} {fx : Int} (h : zLk R V W l fx m) : 0 ≤ zVl R V W l fx m n := zDs_nn (fun s => by
  unfold alv
  split <;> decide) (fun j hj => (h.2.2.2.2.2.2.2.2.2.1 j hj).1) _ _ _
/-- other tenths on both sides -/
theorem zLk.ten {R : Nat → Nat → Nat} {V U W X : Nat → Nat → Int} {l m : Nat} {fx : Int} (h : zLk R V W l fx m) (hU : ∀ i : Nat, i ≠ 104 → U i = V i) (hX : ∀ i : Nat, i ≠ 17 → i ≠ 18 → i ≠ 21 → X i = W i) (ht : ∀ j : Nat, j < m → U 104 j = X 21 j ∧ 0 ≤ X 21 j ∧ X 21 j ≤ 10) : zLk R U X l fx m := by
  obtain ⟨⟨a1, a2, a3, a4⟩, b, c, d1, e, f1, f2, f3, f4, f5, f6⟩ := h
  unfold zLk
  rw [hU 98 (by decide), hU 1 (by decide), hU 103 (by decide), hX 0 (by decide) (by decide) (by decide), hX 1 (by decide) (by decide) (by decide), hX 20 (by decide) (by decide) (by decide)]
  exact ⟨⟨a1.cg (fun i i1 i2 i3 => hU i (by omega)) (fun i i1 i2 => hX i (by omega) (by omega) (by omega)), a2.cg (fun i i1 i2 i3 => hU i (by omega)), a3, a4⟩, b, ⟨c.1, c.2.1, fun p hp => by rw [hU _ (by omega)]; exact c.2.2 p hp⟩, fun j hj => ⟨(d1 j hj).1, (ht j hj).1⟩, e, f1, f2, f3, f4, fun j hj => ⟨(ht j hj).2, (f5 j hj).2⟩, f6⟩
/-- the link laid anew, with tenths of one's own -/
theorem zLk.t2 {l n m : Nat} {V J U U2 W X : Nat → Nat → Int} {R : Nat → Nat → Nat} (hR : RLz 1 V (W 1)) (hd : W 1 79 ≤ 9999) (hT : RTx R V W) (hq : zLq V) (hC : zCr R) (hE : zEw (W 1)) (hn : zCn (W 1) l n m) (h31 : W 0 31 = -1) (ht : f_s_take 1 (l : Int) (m : Int) V J R U)
    (hXo : ∀ i : Nat, i ≠ 0 → i ≠ 17 → i ≠ 18 → i ≠ 20 → i ≠ 21 → X i = W i) (h0 : ∀ k : Nat, k ≠ 33 → k ≠ 34 → X 0 k = W 0 k) (h33 : X 0 33 = (l : Int)) (h34 : X 0 34 = W 1 (4 + l)) (hj : ∀ j : Nat, j < m → X 20 j = zLw (W 1) j) (hU : ∀ i : Nat, i ≠ 104 → U2 i = U i) (hten : ∀ j : Nat, j < m → U2 104 j = X 21 j ∧ 0 ≤ X 21 j ∧ X 21 j ≤ 10) : zLk R U2 X l 0 m := by
  have hX0 : ∀ i : Nat, i ≠ 21 → (fun i : Nat => if i = 21 then (fun j => W 1 (52 + (zLw (W 1) j).toNat)) else X i) i = X i := fun i hi => if_neg hi
  have hX21 : (fun i : Nat => if i = 21 then (fun j => W 1 (52 + (zLw (W 1) j).toNat)) else X i) 21 = fun j => W 1 (52 + (zLw (W 1) j).toNat) := if_pos rfl
  generalize (fun i : Nat => if i = 21 then (fun j => W 1 (52 + (zLw (W 1) j).toNat)) else X i) = X0 at hX0 hX21
  obtain ⟨k, -⟩ := zLk.t (X := X0) hR hd hT hq hC hE hn h31 ht (fun i i0 i1 i2 i3 i4 => by rw [hX0 i i4]; exact hXo i i0 i1 i2 i3 i4) (fun k k1 k2 => by rw [hX0 0 (by decide)]; exact h0 k k1 k2) (by rw [hX0 0 (by decide)]; exact h33) (by rw [hX0 0 (by decide)]; exact h34) (fun j hjm => by rw [hX0 20 (by decide), hX21]; exact ⟨hj j hjm, rfl⟩)
  exact k.ten hU (fun i _ _ i3 => (hX0 i i3).symm) hten
theorem q_fillT {t : Int} {V J U : Nat → Nat → Int} {R : Nat → Nat → Nat} (h : f_s_fillT t V J R U) : (∀ i : Nat, i ≠ 104 → U i = V i) ∧ ∀ j : Nat, j < 3 → U 104 j = t := by
  unfold f_s_fillT at h
  obtain ⟨b, hb, h⟩ := lop2_g h
  obtain ⟨Y, h, y1, y2⟩ := fill_loop (N := 3) (p := 104) (F := fun _ => t) (K := fun Y r => r = Y) (fun rc x Y hx hY h => by
    rw [hb] at h
    rw [if_neg (by omega)] at h
    simp only [rdb] at h
    rw [Int.toNat_natCast] at h
    rw [show ((x + 1 : Nat) : Int) = (x : Int) + 1 by omega]
    exact h) (fun rc Y h => by
    rw [hb] at h
    rw [if_pos (by decide)] at h
    exact h) 5 h
  subst h
  exact ⟨y2, y1⟩
set_option maxRecDepth 100000 in
theorem x_chance {l n m w a b : Int} {V V2 J J2 W Jm X Jm2 : Nat → Nat → Int} {R R2 Rm Rm2 : Nat → Nat → Nat} (h : WR R V W) (hC : zCr R) (hq : zLq V) (hE : zEw (W 1)) (h31 : W 0 31 = -1) (hx : f_s_chance l n m w V J R (a, (V2, J2, R2))) (hm : f_m_chance l n m w W Jm Rm (b, (X, Jm2, Rm2))) : a = b ∧ zCr R2 := by
  unfold f_s_chance at hx
  unfold f_m_chance at hm
  obtain ⟨x1, a1, -, hx⟩ := hx
  obtain ⟨y1, X1, b1, -, -, hm⟩ := hm
  obtain ⟨e1, o1, o0, hc⟩ := w_go h.1.1 a1 b1
  have no : ∀ (X : Nat → Nat → Int), rtn ((-1 : Int), (V, J, R)) (a, (V2, J2, R2)) → rtn ((-1 : Int), (X1, Jm, Rm)) (b, (X, Jm2, Rm2)) → a = b ∧ zCr R2 := fun X hx hm => by
    simp only [rtn, Prod.mk.injEq] at hx hm
    obtain ⟨rfl, rfl, rfl, rfl⟩ := hx
    exact ⟨hm.1.symm, hC⟩
  by_cases g1 : y1 = 0
  · rw [if_pos (by omega)] at hx
    rw [if_pos g1] at hm
    exact no _ hx hm
  rw [if_neg (by omega)] at hx
  rw [if_neg g1] at hm
  obtain ⟨x4, a4, -, hx⟩ := hx
  obtain ⟨y4, b4, -, hm⟩ := hm
  have e4 := (q_within a4).eq (q_in b4) Iff.rfl
  by_cases g4 : y4 = 0
  · rw [if_neg (fun hh => hh (by omega))] at hx
    rw [if_neg (fun hh => hh g4)] at hm
    exact no _ hx hm
  rw [if_pos (by omega)] at hx
  rw [if_pos g4] at hm
  rcases hc with hc | ⟨-, l2, n2, m2, rfl, rfl, rfl, hn, h33, h34, hj⟩
  · exact absurd hc g1
  obtain ⟨V7, k7, -, hx⟩ := hx
  obtain ⟨L0, -⟩ := zLk.t h.1.1 h.1.2 h.2.2.2.1.1 hq hC hE hn h31 k7 (fun i i0 _ _ i3 i4 => o1 i i0 i3 i4) o0 h33 h34 hj
  obtain ⟨n1, n2', n3, n4, n5, n6, n7⟩ := hn
  obtain ⟨bX, hbX, hx⟩ := zlop6 hx
  obtain ⟨bM, hbM, hm⟩ := zlop6 hm
  clear h hE hj k7 a1 b1 a4 b4
  have key : ∀ (f f2 t : Nat) (mo bc br : Int) (Y Z : Nat → Nat → Int) (Q : Nat → Nat → Nat) (S T : Nat → Nat → Int) (P : Nat → Nat → Nat), t ≤ 11 → zLk Q Y S l2 0 m2 → (t = 0 ∧ mo = -1 ∨ bc = br) → lop6 f bX (t : Int) mo bc Y Z Q (a, (V2, J2, R2)) → lop6 f2 bM (t : Int) mo br S T P (b, (X, Jm2, Rm2)) → a = b ∧ zCr R2 := by
    intro f
    induction f with
    | zero => intro f2 t mo bc br Y Z Q S T P _ _ _ h; exact False.elim h
    | succ f ih =>
      intro f2 t mo bc br Y Z Q S T P ht hL hb hx hm
      cases f2 with
      | zero => exact False.elim hm
      | succ f2 =>
        rw [lop6_s hbX] at hx
        rw [lop6_s hbM] at hm
        by_cases g : (10 : Int) < t
        · rw [if_pos g] at hx hm
          have eb : bc = br := by
            rcases hb with ⟨e, -⟩ | e
            · omega
            · exact e
          by_cases gw : w = 0
          · rw [if_neg (fun hh => hh gw)] at hx hm
            simp only [rtn, Prod.mk.injEq] at hx hm
            obtain ⟨rfl, rfl, rfl, rfl⟩ := hx
            exact ⟨by rw [hm.1]; exact eb, hL.1.2.2.1⟩
          · rw [if_pos gw] at hx hm
            simp only [rtn, Prod.mk.injEq] at hx hm
            obtain ⟨rfl, rfl, rfl, rfl⟩ := hx
            exact ⟨hm.1.symm, hL.1.2.2.1⟩
        · rw [if_neg g] at hx hm
          obtain ⟨Ya, ka, -, hx⟩ := hx
          obtain ⟨u1, u2⟩ := q_fillT ka
          obtain ⟨b2, hb2, hm⟩ := lop2_g hm
          obtain ⟨Sa, hm, s1, s2⟩ := fill_loop (N := m2) (p := 21) (F := fun _ => (t : Int)) (K := fun V621 => calSM 7253591811175922467340288 V621 (f_m_goesThrough (n2 : Int) (m2 : Int) V621 T P) fun z633 V633 J633 R633 => jnk (fun (z635 : Int) (z636 : Int) => lop6 f2 bM ((t : Int) + 1) z636 z635 V633 J633 R633) fun jf637 => (if 0 < (lcI z633 mo) then jf637 (t : Int) z633 else jf637 br mo)) (fun rc x Y hx hY h => by
            rw [hb2] at h
            rw [if_neg (by omega)] at h
            simp only [rdb] at h
            rw [Int.toNat_natCast] at h
            rw [show ((x + 1 : Nat) : Int) = (x : Int) + 1 by omega]
            exact h) (fun rc Y h => by
            rw [hb2] at h
            rw [if_pos (Int.le_refl _)] at h
            exact h) 5 hm
          have La : zLk Q Ya Sa l2 0 m2 := hL.ten u1 (fun i _ _ i3 => s2 i i3) (fun j hj => by
            rw [u2 j (by omega), s1 j hj]
            exact ⟨rfl, by omega, by omega⟩)
          obtain ⟨v, Yb, Zb, Qb, kb, -, hx⟩ := hx
          obtain ⟨v2, Sb, Tb, Pb, kb2, -, hm⟩ := hm
          obtain ⟨r1, -, r3, r4⟩ := z_s La n3.2 n2'.2 n4 kb
          obtain ⟨q1, q2⟩ := z_m La n3.2 n2'.2 n4 kb2
          have ev : v = v2 := by rw [r1, q1]
          subst ev
          have vn : 0 ≤ v := by rw [r1]; exact zVl_nn La
          have Lb : zLk Qb Yb Sb l2 0 m2 := (La.s r4 r3).m q2
          rw [show ((t : Int) + 1) = ((t + 1 : Nat) : Int) by omega] at hx hm
          simp only [jnk] at hx hm
          by_cases gv : v ≤ mo
          · rw [if_pos ((lcI_le _ _).mpr gv)] at hx
            rw [if_neg (fun hh => by have := (lcI_gt _ _).mp hh; omega)] at hm
            refine ih f2 (t + 1) mo bc br Yb Zb Qb Sb Tb Pb (by omega) Lb (Or.inr ?_) hx hm
            rcases hb with ⟨-, e⟩ | e
            · omega
            · exact e
          · rw [if_neg (fun hh => gv ((lcI_le _ _).mp hh))] at hx
            rw [if_pos ((lcI_gt _ _).mpr (by omega))] at hm
            exact ih f2 (t + 1) v t t Yb Zb Qb Sb Tb Pb (by omega) Lb (Or.inr rfl) hx hm
  exact key 13 13 0 (-1) (-1) 0 V7 J R X1 Jm Rm (by decide) L0 (Or.inl ⟨rfl, rfl⟩) hx hm
end
section
-- answers: whom to ask, who moves out (own work)
/-- the first side between two ways: as at the beginning, but for what a way uses -/
def zSt (V : Nat → Nat → Int) (R : Nat → Nat → Nat) (Y : Nat → Nat → Int) (Q : Nat → Nat → Nat) : Prop := (∀ i : Nat, i < 69 ∨ (73 ≤ i ∧ i ≤ 97) → Y i = V i) ∧ (∀ i : Nat, i ≠ 98 → Q i = R i) ∧ zCr Q
/-- the reference likewise -/
def zMt (W S : Nat → Nat → Int) (l m : Nat) : Prop := (∀ i : Nat, i ≠ 0 → i ≠ 17 → i ≠ 18 → i ≠ 20 → i ≠ 21 → S i = W i) ∧ (∀ k : Nat, k ≠ 33 → k ≠ 34 → S 0 k = W 0 k) ∧ S 0 33 = (l : Int) ∧ S 0 34 = W 1 (4 + l) ∧ ∀ j : Nat, j < m → S 20 j = zLw (W 1) j
theorem zSt.lk {l n m : Nat} {V W Y J Ya Yb S : Nat → Nat → Int} {R Q : Nat → Nat → Nat} (h : WR R V W) (hq : zLq V) (hE : zEw (W 1)) (h31 : W 0 31 = -1) (hn : zCn (W 1) l n m) (hS : zSt V R Y Q) (hM : zMt W S l m) (ht : f_s_take 1 (l : Int) (m : Int) Y J Q Ya) (hU : ∀ i : Nat, i ≠ 104 → Yb i = Ya i) (hten : ∀ j : Nat, j < m → Yb 104 j = S 21 j ∧ 0 ≤ S 21 j ∧ S 21 j ≤ 10) : zLk Q Yb S l 0 m := by
  obtain ⟨s1, s2, s3⟩ := hS
  obtain ⟨m1, m2, m3, m4, m5⟩ := hM
  have hT : RTx Q Y W := by
    have k := h.2.2.2.1.1.cg (Ux := Y) (Um := W) (fun i i1 i2 i3 => s1 i (by omega)) (fun _ _ _ => rfl)
    unfold RTx at k ⊢
    rw [s2 60 (by decide), s2 66 (by decide)]
    exact k
  exact zLk.t2 (h.1.1.cg2 (fun i _ i2 => s1 i (by omega)) (fun _ _ => rfl)) h.1.2 hT (hq.cg fun i i1 i2 i3 => s1 i (by omega)) s3 hE hn h31 ht m1 m2 m3 m4 m5 hU hten
set_option maxRecDepth 100000 in
theorem z_run {l n m : Nat} {v v2 : Int} {V W Y J Ya Yb Yc Jc S T S2 T2 : Nat → Nat → Int} {R Q Qc P P2 : Nat → Nat → Nat} (h : WR R V W) (hq : zLq V) (hE : zEw (W 1)) (h31 : W 0 31 = -1) (hn : zCn (W 1) l n m) (hS : zSt V R Y Q) (hM : zMt W S l m) (ht : f_s_take 1 (l : Int) (m : Int) Y J Q Ya) (hU : ∀ i : Nat, i ≠ 104 → Yb i = Ya i) (hten : ∀ j : Nat, j < m → Yb 104 j = S 21 j ∧ 0 ≤ S 21 j ∧ S 21 j ≤ 10)
    (hx : f_s_lives 1 (n : Int) Yb J Q (v, (Yc, Jc, Qc))) (hm : f_m_goesThrough (n : Int) (m : Int) S T P (v2, (S2, T2, P2))) : v = v2 ∧ 0 ≤ v ∧ zSt V R Yc Qc ∧ zMt W S2 l m ∧ (∀ j : Nat, j < m → Yc 103 j = zLw (W 1) j) ∧ (Jc 98 16 = p10 (n * (m + 1)) ∧ zLk Qc Yc S2 l 0 m) := by
  have L := hS.lk h hq hE h31 hn hM ht hU hten
  obtain ⟨n1, n2, n3, n4, n5, n6, n7⟩ := hn
  obtain ⟨r1, r2, r3, r4⟩ := z_s L n3.2 n2.2 n4 hx
  obtain ⟨q1, q2⟩ := z_m L n3.2 n2.2 n4 hm
  obtain ⟨s1, s2, s3⟩ := hS
  obtain ⟨m1, m2, m3, m4, m5⟩ := hM
  obtain ⟨t1, -, t3⟩ := q_take n1 n3.2 (h.1.1.cg2 (U := Y) (M := W 1) (fun i _ i2 => s1 i (by omega)) (fun _ _ => rfl)) n5 ht
  refine ⟨by rw [r1, q1], by rw [r1]; exact zVl_nn L, ⟨fun i hi => ?_, fun i hi => ?_, r3⟩, ⟨fun i i0 i1 i2 i3 i4 => ?_, fun k k1 k2 => ?_, ?_, ?_, fun j hj => ?_⟩, fun j hj => ?_, r2, (L.s r4 r3).m q2⟩
  · rw [r4.1 i (by omega) (by omega) (by omega) (by omega) (by omega) (by omega), hU i (by omega), t1 i (by omega) (by omega) (by omega)]
    exact s1 i hi
  · rw [r4.2.2 i hi]; exact s2 i hi
  · rw [q2 i i1 i2]; exact m1 i i0 i1 i2 i3 i4
  · rw [q2 0 (by decide) (by decide)]; exact m2 k k1 k2
  · rw [q2 0 (by decide) (by decide)]; exact m3
  · rw [q2 0 (by decide) (by decide)]; exact m4
  · rw [q2 20 (by decide) (by decide)]; exact m5 j hj
  · rw [r4.1 103 (by decide) (by decide) (by decide) (by decide) (by decide) (by decide), hU 103 (by decide)]
    exact (t3 j hj).1
theorem q_askC {i m : Nat} {V J U : Nat → Nat → Int} {R : Nat → Nat → Nat} (hm : V 98 8 = (m : Int)) (ht : ∀ j : Nat, j < m → 0 ≤ V 104 j ∧ V 104 j ≤ 10) (h : f_s_askC (i : Int) V J R U) : (∀ j : Nat, j ≠ 104 → U j = V j) ∧ ∀ j : Nat, j < m → U 104 j = if j = i then 10 else max 0 (V 104 j - 2) := by
  unfold f_s_askC at h
  obtain ⟨b, hb, h⟩ := lop2_g h
  have key : ∀ (f x : Nat) (Y : Nat → Nat → Int), x ≤ m → (∀ j : Nat, j ≠ 104 → Y j = V j) → (∀ j : Nat, x ≤ j → Y 104 j = V 104 j) → (∀ j : Nat, j < x → Y 104 j = if j = i then 10 else max 0 (V 104 j - 2)) → lop2 f b (x : Int) Y U → (∀ j : Nat, j ≠ 104 → U j = V j) ∧ ∀ j : Nat, j < m → U 104 j = if j = i then 10 else max 0 (V 104 j - 2) := by
    intro f
    induction f with
    | zero => intro x Y _ _ _ _ h; exact False.elim h
    | succ f ih =>
      intro x Y hx hY h1 h2 h
      rw [lop2_s hb] at h
      obtain ⟨-, h⟩ := h
      rw [hY 98 (by decide), hm] at h
      by_cases g : (m : Int) ≤ x
      · rw [if_pos g] at h
        have h : U = Y := h
        rw [h]
        exact ⟨hY, fun j hj => h2 j (by omega)⟩
      · rw [if_neg g] at h
        have tx := ht x (by omega)
        have go : ∀ v : Int, v = (if x = i then 10 else max 0 (V 104 x - 2)) → lop2 f b ((x : Int) + 1) (up2 Y 104 (x : Int).toNat v) U → (∀ j : Nat, j ≠ 104 → U j = V j) ∧ ∀ j : Nat, j < m → U 104 j = if j = i then 10 else max 0 (V 104 j - 2) := fun v hv h => by
          rw [Int.toNat_natCast, show ((x : Int) + 1) = ((x + 1 : Nat) : Int) by omega] at h
          refine ih (x + 1) _ (by omega) (fun j hj => by rw [up2_c _ _ hj]; exact hY j hj) (fun j hj => ?_) (fun j hj => ?_) h
          · rw [up2_n _ _ (Or.inr (by omega))]; exact h1 j (by omega)
          · rw [up2_row]
            by_cases e : j = x
            · subst e; rw [up1_s]; exact hv
            · rw [up1_n _ _ e]; exact h2 j (by omega)
        simp only [jnk, rdb] at h
        rw [Int.toNat_natCast, h1 x (Nat.le_refl _), wr_id (z := V 104 x - 2) ⟨by omega, by omega⟩] at h
        by_cases e : x = i
        · rw [if_neg (fun hh => hh (by omega))] at h
          exact go 10 (by rw [if_pos e]) (by rw [Int.toNat_natCast]; exact h)
        · rw [if_pos (by omega)] at h
          obtain ⟨-, h⟩ := h
          exact go _ (by rw [if_neg e]) (by rw [Int.toNat_natCast]; exact h)
  exact key 5 0 V (Nat.zero_le _) (fun _ _ => rfl) (fun _ _ => rfl) (fun j hj => by omega) h
set_option maxRecDepth 100000 in
theorem x_toAsk {l n m w a b : Int} {V V2 J J2 W Jm X Jm2 : Nat → Nat → Int} {R R2 Rm Rm2 : Nat → Nat → Nat} (h : WR R V W) (hC : zCr R) (hq : zLq V) (hE : zEw (W 1)) (h31 : W 0 31 = -1) (hx : f_s_toAsk l n m w V J R (a, (V2, J2, R2))) (hm : f_m_toAsk l n m w W Jm Rm (b, (X, Jm2, Rm2))) : a = b ∧ zCr R2 := by
  unfold f_s_toAsk at hx
  unfold f_m_toAsk at hm
  obtain ⟨x1, a1, -, hx⟩ := hx
  obtain ⟨y1, X1, b1, -, -, hm⟩ := hm
  obtain ⟨e1, o1, o0, hc⟩ := w_go h.1.1 a1 b1
  have no : ∀ (X : Nat → Nat → Int), rtn ((-1 : Int), (V, J, R)) (a, (V2, J2, R2)) → rtn ((-1 : Int), (X1, Jm, Rm)) (b, (X, Jm2, Rm2)) → a = b ∧ zCr R2 := fun X hx hm => by
    simp only [rtn, Prod.mk.injEq] at hx hm
    rw [hx.1, hm.1, hx.2.2.2]
    exact ⟨rfl, hC⟩
  by_cases g1 : y1 = 0
  · rw [if_pos (by omega)] at hx
    rw [if_pos g1] at hm
    exact no _ hx hm
  rw [if_neg (by omega)] at hx
  rw [if_neg g1] at hm
  obtain ⟨x4, a4, -, hx⟩ := hx
  obtain ⟨y4, b4, -, hm⟩ := hm
  have e4 := (q_within a4).eq (q_in b4) Iff.rfl
  by_cases g4 : y4 = 0
  · rw [if_neg (fun hh => hh (by omega))] at hx
    rw [if_neg (fun hh => hh g4)] at hm
    exact no _ hx hm
  rw [if_pos (by omega)] at hx
  rw [if_pos g4] at hm
  rcases hc with hc | ⟨-, l2, n2, m2, rfl, rfl, rfl, hn, h33, h34, hj⟩
  · exact absurd hc g1
  have hE2 := hE.2
  have M0 : zMt W X1 l2 m2 := ⟨fun i i0 _ _ i3 i4 => o1 i i0 i3 i4, o0, h33, h34, fun j hjm => (hj j hjm).1⟩
  have S0 : zSt V R V R := ⟨fun _ _ => rfl, fun _ _ => rfl, hC⟩
  obtain ⟨v0, V7, J7, R7, k7, -, hx⟩ := hx
  unfold f_s_livesAsItIs at k7
  obtain ⟨Va, ka, -, k7⟩ := k7
  obtain ⟨vb, Vb, Jb, Rb, kb, -, k7⟩ := k7
  simp only [rtn, Prod.mk.injEq] at k7
  obtain ⟨f1, f2, f3, f4⟩ := k7
  obtain ⟨w0, W7, Jm7, Rm7, c7, -, hm⟩ := hm
  have n123 := hn
  obtain ⟨n1, n2', n3, n4, n5, n6, n7⟩ := n123
  obtain ⟨-, -, ta⟩ := q_take n1 n3.2 h.1.1 n5 ka
  obtain ⟨r1, r2, r3, r4, r5, -⟩ := z_run h hq hE h31 hn S0 M0 ka (fun _ _ => rfl) (fun j hjm => by
    have zr := zLw_r (N := W 1) j
    rw [(ta j hjm).2, (hj j hjm).2]
    exact ⟨rfl, hE2 _ (by omega)⟩) kb c7
  rw [← f2, ← f4] at r3
  rw [← f1] at r1
  clear ta ka kb f1 f2 f3 f4 r5 r2 c7 b1 a1 a4 b4
  obtain ⟨bX, hbX, hx⟩ := zlop6 hx
  obtain ⟨bM, hbM, hm⟩ := zlop6 hm
  have key : ∀ (f f2 i : Nat) (mo be : Int) (Y Z : Nat → Nat → Int) (Q : Nat → Nat → Nat) (S T : Nat → Nat → Int) (P : Nat → Nat → Nat), i ≤ m2 → zSt V R Y Q → zMt W S l2 m2 → lop6 f bX (i : Int) mo be Y Z Q (a, (V2, J2, R2)) → lop6 f2 bM (i : Int) mo be S T P (b, (X, Jm2, Rm2)) → a = b ∧ zCr R2 := by
    intro f
    induction f with
    | zero => intro f2 i mo be Y Z Q S T P _ _ _ h; exact False.elim h
    | succ f ih =>
      intro f2 i mo be Y Z Q S T P hi hS hM hx hm
      cases f2 with
      | zero => exact False.elim hm
      | succ f2 =>
        rw [lop6_s hbX] at hx
        rw [lop6_s hbM] at hm
        by_cases g : (m2 : Int) ≤ i
        · rw [if_pos g] at hx hm
          by_cases gw : w = 0
          · rw [if_neg (fun hh => hh gw)] at hx hm
            simp only [rtn, Prod.mk.injEq] at hx hm
            rw [hx.1, hm.1, hx.2.2.2]
            exact ⟨rfl, hS.2.2⟩
          · rw [if_pos gw] at hx hm
            simp only [rtn, Prod.mk.injEq] at hx hm
            rw [hx.1, hm.1, hx.2.2.2]
            exact ⟨rfl, hS.2.2⟩
        · rw [if_neg g] at hx hm
          obtain ⟨Ya, ka, -, hx⟩ := hx
          obtain ⟨Yb, kb, -, hx⟩ := hx
          have hRY := h.1.1.cg2 (U := Y) (M := W 1) (fun i _ i2 => hS.1 i (by omega)) (fun _ _ => rfl)
          obtain ⟨-, ⟨t8, -⟩, t3⟩ := q_take n1 n3.2 hRY n5 ka
          obtain ⟨u1, u2⟩ := q_askC t8 (fun j hj => by
            have zr := zLw_r (N := W 1) j
            rw [(t3 j hj).2]
            exact hE2 _ (by omega)) kb
          obtain ⟨b2, hb2, hm⟩ := lop2_g hm
          have hM2 := hM
          obtain ⟨m1', m2', m3', m4', m5'⟩ := hM2
          obtain ⟨Sa, hm, s1, s2⟩ := fill_loop (N := m2) (p := 21) (F := fun j => if j = i then 10 else max 0 (W 1 (52 + (zLw (W 1) j).toNat) - 2)) (K := fun V2187 => calSM 7253591811175922467340288 V2187 (f_m_goesThrough (n2 : Int) (m2 : Int) V2187 T P) fun z2240 V2240 J2240 R2240 => jnk (fun (z2243 : Int) (z2244 : Int) => lop6 f2 bM ((i : Int) + 1) z2244 z2243 V2240 J2240 R2240) fun jf2245 => (if 0 < (lcI z2240 mo) then rdb (V2240 20 (i : Int).toNat) fun z2247 => fct (0 ≤ z2247 ∧ z2247 ≤ 7) <| jf2245 z2247 z2240 else jf2245 be mo)) (fun rc x Y hx hY h => by
            rw [hb2] at h
            rw [if_neg (by omega)] at h
            have zr := zLw_r (N := W 1) x
            have e2 := hE2 (zLw (W 1) x).toNat (by omega)
            simp only [jnk, rdb] at h
            rw [Int.toNat_natCast] at h
            rw [show ((x + 1 : Nat) : Int) = (x : Int) + 1 by omega]
            by_cases e : x = i
            · rw [if_neg (fun hh => hh (by omega))] at h
              rw [if_pos e]
              exact h
            · rw [if_pos (by omega)] at h
              rw [if_neg e]
              rw [hY 20 (by decide), m5' x hx, hY 1 (by decide), m1' 1 (by decide) (by decide) (by decide) (by decide) (by decide), show (zLw (W 1) x + 52).toNat = 52 + (zLw (W 1) x).toNat by omega, wr_id ⟨by omega, by omega⟩] at h
              obtain ⟨-, z, hz, h⟩ := h
              rw [q_max hz] at h
              exact h) (fun rc Y h => by
            rw [hb2] at h
            rw [if_pos (Int.le_refl _)] at h
            exact h) 5 hm
          clear hb2
          have Ma : zMt W Sa l2 m2 := ⟨fun i i0 i1 i2 i3 i4 => by rw [s2 i i4]; exact m1' i i0 i1 i2 i3 i4, fun k k1 k2 => by rw [s2 0 (by decide)]; exact m2' k k1 k2, by rw [s2 0 (by decide)]; exact m3', by rw [s2 0 (by decide)]; exact m4', fun j hjm => by rw [s2 20 (by decide)]; exact m5' j hjm⟩
          obtain ⟨v, Yc, Zc, Qc, kc, -, hx⟩ := hx
          obtain ⟨v2, Sb, Tb, Pb, kc2, -, hm⟩ := hm
          obtain ⟨p1, p2, p3, p4, p5, -⟩ := z_run h hq hE h31 hn hS Ma ka u1 (fun j hjm => by
            have zr := zLw_r (N := W 1) j
            have e2 := hE2 (zLw (W 1) j).toNat (by omega)
            rw [u2 j hjm, s1 j hjm, (t3 j hjm).2]
            refine ⟨rfl, ?_⟩
            split <;> omega) kc kc2
          rw [← p1] at hm
          have ex : Yc 103 i = zLw (W 1) i := p5 i (by omega)
          have em : Sb 20 i = zLw (W 1) i := p4.2.2.2.2 i (by omega)
          rw [show ((i : Int) + 1) = ((i + 1 : Nat) : Int) by omega] at hx hm
          simp only [jnk] at hx hm
          by_cases gv : v ≤ mo
          · rw [if_pos ((lcI_le _ _).mpr gv)] at hx
            rw [if_neg (fun hh => by have := (lcI_gt _ _).mp hh; omega)] at hm
            exact ih f2 (i + 1) mo be Yc Zc Qc Sb Tb Pb (by omega) p3 p4 hx hm
          · rw [if_neg (fun hh => gv ((lcI_le _ _).mp hh))] at hx
            rw [if_pos ((lcI_gt _ _).mpr (by omega))] at hm
            obtain ⟨q1, eq1, -, hx⟩ : ∃ q1 : Int, Yc 103 i = q1 ∧ (0 ≤ q1 ∧ q1 ≤ 7) ∧ lop6 f bX ((i + 1 : Nat) : Int) v q1 Yc Zc Qc (a, (V2, J2, R2)) := by
              obtain ⟨c, d⟩ := hx
              rw [Int.toNat_natCast] at c d
              exact ⟨_, rfl, c, d⟩
            obtain ⟨q2, eq2, -, hm⟩ : ∃ q2 : Int, Sb 20 i = q2 ∧ (0 ≤ q2 ∧ q2 ≤ 7) ∧ lop6 f2 bM ((i + 1 : Nat) : Int) v q2 Sb Tb Pb (b, (X, Jm2, Rm2)) := by
              obtain ⟨c, d⟩ := hm
              rw [Int.toNat_natCast] at c d
              exact ⟨_, rfl, c, d⟩
            have eq : q2 = q1 := by rw [← eq1, ← eq2, ex, em]
            rw [eq] at hm
            exact ih f2 (i + 1) v q1 Yc Zc Qc Sb Tb Pb (by omega) p3 p4 hx hm
  rw [← r1] at hm
  exact key 5 5 0 v0 (-2) V7 J7 R7 W7 Jm7 Rm7 (Nat.zero_le _) r3 r4 hx hm
end
section
-- answers: who moves out (own work)
set_option maxRecDepth 100000 in
theorem x_movesOut {l n m w a b : Int} {V V2 J J2 W Jm X Jm2 : Nat → Nat → Int} {R R2 Rm Rm2 : Nat → Nat → Nat} (h : WR R V W) (hC : zCr R) (hq : zLq V) (hE : zEw (W 1)) (h31 : W 0 31 = -1) (hx : f_s_movesOut l n m w V J R (a, (V2, J2, R2))) (hm : f_m_movesOut l n m w W Jm Rm (b, (X, Jm2, Rm2))) : a = b ∧ zCr R2 := by
  unfold f_s_movesOut at hx
  unfold f_m_movesOut at hm
  obtain ⟨x1, a1, -, hx⟩ := hx
  obtain ⟨y1, X1, b1, -, -, hm⟩ := hm
  obtain ⟨e1, o1, o0, hc⟩ := w_go h.1.1 a1 b1
  have no : ∀ (X : Nat → Nat → Int), rtn ((-1 : Int), (V, J, R)) (a, (V2, J2, R2)) → rtn ((-1 : Int), (X1, Jm, Rm)) (b, (X, Jm2, Rm2)) → a = b ∧ zCr R2 := fun X hx hm => by
    simp only [rtn, Prod.mk.injEq] at hx hm
    rw [hx.1, hm.1, hx.2.2.2]
    exact ⟨rfl, hC⟩
  by_cases g1 : y1 = 0
  · rw [if_pos (by omega)] at hx
    rw [if_pos g1] at hm
    exact no _ hx hm
  rw [if_neg (by omega)] at hx
  rw [if_neg g1] at hm
  obtain ⟨x4, a4, -, hx⟩ := hx
  obtain ⟨y4, b4, -, hm⟩ := hm
  have e4 := (q_within a4).eq (q_in b4) Iff.rfl
  by_cases g4 : y4 = 0
  · rw [if_neg (fun hh => hh (by omega))] at hx
    rw [if_neg (fun hh => hh g4)] at hm
    exact no _ hx hm
  rw [if_pos (by omega)] at hx
  rw [if_pos g4] at hm
  rcases hc with hc | ⟨-, l2, n2, m2, rfl, rfl, rfl, hn, h33, h34, hj⟩
  · exact absurd hc g1
  have hE2 := hE.2
  have M0 : zMt W X1 l2 m2 := ⟨fun i i0 _ _ i3 i4 => o1 i i0 i3 i4, o0, h33, h34, fun j hjm => (hj j hjm).1⟩
  have S0 : zSt V R V R := ⟨fun _ _ => rfl, fun _ _ => rfl, hC⟩
  have n123 := hn
  obtain ⟨n1, n2', n3, n4, n5, n6, n7⟩ := n123
  clear b1 a1 a4 b4
  obtain ⟨bX, hbX, hx⟩ := zlop6 hx
  obtain ⟨bM, hbM, hm⟩ := zlop6 hm
  have key : ∀ (f f2 i : Nat) (mo be mr br : Int) (Y Z : Nat → Nat → Int) (Q : Nat → Nat → Nat) (S T : Nat → Nat → Int) (P : Nat → Nat → Nat), i ≤ m2 → (i = 0 ∧ mo = -1 ∧ br = -1 ∨ mo = mr ∧ be = br ∧ 0 ≤ mo ∧ 0 ≤ be) → zSt V R Y Q → zMt W S l2 m2 → lop6 f bX (i : Int) mo be Y Z Q (a, (V2, J2, R2)) → lop6 f2 bM (i : Int) mr br S T P (b, (X, Jm2, Rm2)) → a = b ∧ zCr R2 := by
    intro f
    induction f with
    | zero => intro f2 i mo be mr br Y Z Q S T P _ _ _ _ h; exact False.elim h
    | succ f ih =>
      intro f2 i mo be mr br Y Z Q S T P hi hb hS hM hx hm
      cases f2 with
      | zero => exact False.elim hm
      | succ f2 =>
        rw [lop6_s hbX] at hx
        rw [lop6_s hbM] at hm
        by_cases g : (m2 : Int) ≤ i
        · rw [if_pos g] at hx hm
          have eb : mo = mr ∧ be = br := by
            rcases hb with ⟨e, -⟩ | ⟨e1, e2, -⟩
            · omega
            · exact ⟨e1, e2⟩
          rw [← eb.1, ← eb.2] at hm
          by_cases gw : w = 0
          · rw [if_neg (fun hh => hh gw)] at hx hm
            simp only [rtn, Prod.mk.injEq] at hx hm
            rw [hx.1, hm.1, hx.2.2.2]
            exact ⟨rfl, hS.2.2⟩
          · rw [if_pos gw] at hx hm
            simp only [rtn, Prod.mk.injEq] at hx hm
            rw [hx.1, hm.1, hx.2.2.2]
            exact ⟨rfl, hS.2.2⟩
        · rw [if_neg g] at hx hm
          obtain ⟨Ya, ka, -, hx⟩ := hx
          obtain ⟨Yb, kb, hx⟩ := rdb_g hx
          rw [Int.toNat_natCast] at kb
          have hRY := h.1.1.cg2 (U := Y) (M := W 1) (fun i _ i2 => hS.1 i (by omega)) (fun _ _ => rfl)
          obtain ⟨-, -, t3⟩ := q_take n1 n3.2 hRY n5 ka
          have u1 : ∀ j : Nat, j ≠ 104 → Yb j = Ya j := fun j hj => by rw [← kb, up2_c _ _ hj]
          have u2 : ∀ j : Nat, j < m2 → Yb 104 j = if j = i then 0 else Ya 104 j := fun j _ => by
            rw [← kb, up2_row]
            by_cases e : j = i
            · subst e; rw [up1_s, if_pos rfl]
            · rw [up1_n _ _ e, if_neg e]
          obtain ⟨b2, hb2, hm⟩ := lop2_g hm
          have hM2 := hM
          obtain ⟨m1', m2', m3', m4', m5'⟩ := hM2
          obtain ⟨Sa, hm, s1, s2⟩ := fill_loop (N := m2) (p := 21) (F := fun j => if j = i then 0 else W 1 (52 + (zLw (W 1) j).toNat)) (K := fun V1700 => calSM 7253591811175922467340288 V1700 (f_m_goesThrough (n2 : Int) (m2 : Int) V1700 T P) fun z1740 V1740 J1740 R1740 => jnk (fun (z1745 : Int) (z1746 : Int) => lop6 f2 bM ((i : Int) + 1) z1746 z1745 V1740 J1740 R1740) fun jf1747 => (if br = (-1) then rdb (V1740 20 (i : Int).toNat) fun z1749 => fct (0 ≤ z1749 ∧ z1749 ≤ 7) <| jf1747 z1749 z1740 else (if (lcI z1740 mr) < 0 then rdb (V1740 20 (i : Int).toNat) fun z1752 => fct (0 ≤ z1752 ∧ z1752 ≤ 7) <| jf1747 z1752 z1740 else jf1747 br mr))) (fun rc x Y hx hY h => by
            rw [hb2] at h
            rw [if_neg (by omega)] at h
            have zr := zLw_r (N := W 1) x
            have e2 := hE2 (zLw (W 1) x).toNat (by omega)
            simp only [jnk, rdb] at h
            rw [Int.toNat_natCast] at h
            rw [show ((x + 1 : Nat) : Int) = (x : Int) + 1 by omega]
            by_cases e : x = i
            · rw [if_neg (fun hh => hh (by omega))] at h
              rw [if_pos e]
              exact h
            · rw [if_pos (by omega)] at h
              rw [if_neg e]
              rw [hY 20 (by decide), m5' x hx, hY 1 (by decide), m1' 1 (by decide) (by decide) (by decide) (by decide) (by decide), show (zLw (W 1) x + 52).toNat = 52 + (zLw (W 1) x).toNat by omega] at h
              obtain ⟨-, h⟩ := h
              exact h) (fun rc Y h => by
            rw [hb2] at h
            rw [if_pos (Int.le_refl _)] at h
            exact h) 5 hm
          clear hb2
          have Ma : zMt W Sa l2 m2 := ⟨fun i i0 i1 i2 i3 i4 => by rw [s2 i i4]; exact m1' i i0 i1 i2 i3 i4, fun k k1 k2 => by rw [s2 0 (by decide)]; exact m2' k k1 k2, by rw [s2 0 (by decide)]; exact m3', by rw [s2 0 (by decide)]; exact m4', fun j hjm => by rw [s2 20 (by decide)]; exact m5' j hjm⟩
          obtain ⟨v, Yc, Zc, Qc, kc, -, hx⟩ := hx
          obtain ⟨v2, Sb, Tb, Pb, kc2, -, hm⟩ := hm
          obtain ⟨p1, p2, p3, p4, p5, -⟩ := z_run h hq hE h31 hn hS Ma ka u1 (fun j hjm => by
            have zr := zLw_r (N := W 1) j
            have e2 := hE2 (zLw (W 1) j).toNat (by omega)
            rw [u2 j hjm, s1 j hjm, (t3 j hjm).2]
            refine ⟨rfl, ?_⟩
            split <;> omega) kc kc2
          rw [← p1] at hm
          have ex : Yc 103 i = zLw (W 1) i := p5 i (by omega)
          have em : Sb 20 i = zLw (W 1) i := p4.2.2.2.2 i (by omega)
          rw [show ((i : Int) + 1) = ((i + 1 : Nat) : Int) by omega] at hx hm
          simp only [jnk] at hx hm
          have zr := zLw_r (N := W 1) i
          have fx : ∀ q : Int, (rdb (Yc 103 (i : Int).toNat) fun z191 => fct (0 ≤ z191 ∧ z191 ≤ 7) <| lop6 f bX ((i + 1 : Nat) : Int) v z191 Yc Zc Qc) (a, (V2, J2, R2)) → (rdb (Sb 20 (i : Int).toNat) fun z191 => fct (0 ≤ z191 ∧ z191 ≤ 7) <| lop6 f2 bM ((i + 1 : Nat) : Int) v z191 Sb Tb Pb) (b, (X, Jm2, Rm2)) → a = b ∧ zCr R2 := fun _ hx hm => by
            obtain ⟨q1, eq1, hx⟩ := rdb_g hx
            obtain ⟨q2, eq2, hm⟩ := rdb_g hm
            rw [Int.toNat_natCast, ex] at eq1
            rw [Int.toNat_natCast, em] at eq2
            obtain ⟨-, hx⟩ := hx
            obtain ⟨-, hm⟩ := hm
            rw [← eq1] at hx
            rw [← eq2] at hm
            exact ih f2 (i + 1) v _ v _ Yc Zc Qc Sb Tb Pb (by omega) (Or.inr ⟨rfl, rfl, p2, zr.1⟩) p3 p4 hx hm
          rcases hb with ⟨-, h1, h2⟩ | ⟨h1, h2, h3, h4⟩
          · rw [if_pos ((lcI_eq _ _).mpr h1)] at hx
            rw [if_pos h2] at hm
            exact fx 0 hx hm
          · rw [if_neg (fun hh => by have := (lcI_eq _ _).mp hh; omega)] at hx
            rw [if_neg (by omega)] at hm
            by_cases gv : mo ≤ v
            · rw [if_pos ((lcI_ge _ _).mpr gv)] at hx
              rw [if_neg (fun hh => by have := (lcI_lt _ _).mp hh; omega)] at hm
              exact ih f2 (i + 1) mo be mr br Yc Zc Qc Sb Tb Pb (by omega) (Or.inr ⟨h1, h2, h3, h4⟩) p3 p4 hx hm
            · rw [if_neg (fun hh => gv ((lcI_ge _ _).mp hh))] at hx
              rw [if_pos ((lcI_lt _ _).mpr (by omega))] at hm
              exact fx 0 hx hm
  exact key 5 5 0 (-1) (-1) 0 (-1) V J R X1 Jm Rm (Nat.zero_le _) (Or.inl ⟨rfl, rfl, rfl⟩) S0 M0 hx hm
end
section
-- answers: a bigger pot, a rule for each; exactly keeps the lists (own work)
theorem zLk.pot {R : Nat → Nat → Nat} {V U W X : Nat → Nat → Int} {l m : Nat} {p : Int} (h : zLk R V W l 0 m) (hp : 4 ≤ p ∧ p ≤ 24) (hw : V 98 11 = W 1 (4 + l)) (hU : U = up2 V 98 10 p) (hX : X = up2 (up2 (up2 W 1 l p) 1 (4 + l) (min p (W 1 (4 + l)))) 0 34 (min p (W 1 (4 + l)))) : zLk R U X l 0 m := by
  obtain ⟨⟨a1, a2, a3, a4⟩, ⟨b1, b2, b3, b4, b5, b6, b7, b8⟩, ⟨c1, c2, c3⟩, d1, ⟨e1, e2, e3⟩, f1, f2, f3, f4, f5, f6, f7, f8⟩ := h
  have u : ∀ i : Nat, i ≠ 98 → U i = V i := fun i hi => by rw [hU, up2_c _ _ hi]
  have u8 : ∀ k : Nat, k ≠ 10 → U 98 k = V 98 k := fun k hk => by rw [hU, up2_n _ _ (Or.inr hk)]
  have u10 : U 98 10 = p := by rw [hU, up2_s]
  have x : ∀ i : Nat, i ≠ 0 → i ≠ 1 → X i = W i := fun i i0 i1 => by rw [hX, up2_c _ _ i0, up2_c _ _ i1, up2_c _ _ i1]
  have x1 : ∀ k : Nat, k ≠ l → k ≠ 4 + l → X 1 k = W 1 k := fun k k1 k2 => by rw [hX, up2_c _ _ (by decide), up2_n _ _ (Or.inr k2), up2_n _ _ (Or.inr k1)]
  have xl : X 1 l = p := by rw [hX, up2_c _ _ (by decide), up2_n _ _ (Or.inr (by omega)), up2_s]
  have x4 : X 1 (4 + l) = min p (W 1 (4 + l)) := by rw [hX, up2_c _ _ (by decide), up2_s]
  have x0 : ∀ k : Nat, k ≠ 34 → X 0 k = W 0 k := fun k hk => by rw [hX, up2_n _ _ (Or.inr hk), up2_c _ _ (by decide), up2_c _ _ (by decide)]
  have x34 : X 0 34 = min p (W 1 (4 + l)) := by rw [hX, up2_s]
  unfold zLk
  rw [u8 8 (by decide), u8 9 (by decide), u10, u8 11 (by decide), u8 12 (by decide), u8 13 (by decide), u8 15 (by decide), u8 14 (by decide), u 1 (by decide), u 103 (by decide), u 104 (by decide), x 20 (by decide) (by decide), x 21 (by decide) (by decide), xl, x4, x34, x0 33 (by decide), x0 31 (by decide), x0 32 (by decide), x1 (12 + l) (by omega) (by omega), x1 (16 + l) (by omega) (by omega), x1 (8 + l) (by omega) (by omega), x1 79 (by omega) (by omega), x1 78 (by omega) (by omega)]
  refine ⟨⟨a1.cg (fun i i1 i2 i3 => u i (by omega)) (fun i i1 i2 => x i (by omega) (by omega)), a2.cg (fun i i1 i2 i3 => u i (by omega)), a3, a4⟩, ⟨b1, b2, rfl, by omega, b5, b6, b7, b8⟩, ⟨c1, c2, fun q hq => ?_⟩, d1, ⟨e1, rfl, e3⟩, f1, hp, f3, f4, f5, f6, f7, f8⟩
  rw [u _ (by omega), x1 _ (by omega) (by omega)]
  exact c3 q hq
theorem zLk.rule {R : Nat → Nat → Nat} {V U W X : Nat → Nat → Int} {l m : Nat} {fx c x : Int} (h : zLk R V W l fx m) (hc : 1 ≤ c ∧ c ≤ 9) (hU : U = up2 (up2 V 98 14 x) 98 15 c) (hX : ∀ i : Nat, i ≠ 0 → X i = W i) (h31 : X 0 31 = c) (h32 : X 0 32 = x) (h33 : X 0 33 = W 0 33) (h34 : X 0 34 = W 0 34) : zLk R U X l c m := by
  obtain ⟨⟨a1, a2, a3, a4⟩, ⟨b1, b2, b3, b4, b5, b6, b7, b8⟩, ⟨c1, c2, c3⟩, d1, ⟨e1, e2, e3⟩, f⟩ := h
  have u : ∀ i : Nat, i ≠ 98 → U i = V i := fun i hi => by rw [hU, up2_c _ _ hi, up2_c _ _ hi]
  have u8 : ∀ k : Nat, k ≠ 14 → k ≠ 15 → U 98 k = V 98 k := fun k k1 k2 => by rw [hU, up2_n _ _ (Or.inr k2), up2_n _ _ (Or.inr k1)]
  have u15 : U 98 15 = c := by rw [hU, up2_s]
  have u14 : U 98 14 = x := by rw [hU, up2_n _ _ (Or.inr (by decide)), up2_s]
  unfold zLk
  rw [u8 8 (by decide) (by decide), u8 9 (by decide) (by decide), u8 10 (by decide) (by decide), u8 11 (by decide) (by decide), u8 12 (by decide) (by decide), u8 13 (by decide) (by decide), u15, u14, u 1 (by decide), u 103 (by decide), u 104 (by decide), hX 1 (by decide), hX 20 (by decide), hX 21 (by decide), h31, h32, h33, h34]
  exact ⟨⟨a1.cg (fun i i1 i2 i3 => u i (by omega)) (fun i i1 i2 => hX i (by omega)), a2.cg (fun i i1 i2 i3 => u i (by omega)), a3, a4⟩, ⟨b1, b2, b3, b4, b5, b6, rfl, Or.inr rfl⟩, ⟨c1, c2, fun q hq => by rw [u _ (by omega)]; exact c3 q hq⟩, d1, ⟨e1, e2, Or.inr ⟨hc.1, hc.2, rfl⟩⟩, f⟩
set_option maxRecDepth 100000 in
theorem x_pot {l n m w a b : Int} {V V2 J J2 W Jm X Jm2 : Nat → Nat → Int} {R R2 Rm Rm2 : Nat → Nat → Nat} (h : WR R V W) (hC : zCr R) (hq : zLq V) (hE : zEw (W 1)) (h31 : W 0 31 = -1) (hx : f_s_pot l n m w V J R (a, (V2, J2, R2))) (hm : f_m_pot l n m w W Jm Rm (b, (X, Jm2, Rm2))) : a = b ∧ zCr R2 := by
  unfold f_s_pot at hx
  unfold f_m_pot at hm
  obtain ⟨x1, a1, -, hx⟩ := hx
  obtain ⟨y1, X1, b1, -, -, hm⟩ := hm
  obtain ⟨e1, o1, o0, hc⟩ := w_go h.1.1 a1 b1
  have no : ∀ (X : Nat → Nat → Int), rtn ((-1000000000000 : Int), (V, J, R)) (a, (V2, J2, R2)) → rtn ((-1000000000000 : Int), (X1, Jm, Rm)) (b, (X, Jm2, Rm2)) → a = b ∧ zCr R2 := fun X hx hm => by
    simp only [rtn, Prod.mk.injEq] at hx hm
    rw [hx.1, hm.1, hx.2.2.2]
    exact ⟨rfl, hC⟩
  by_cases g1 : y1 = 0
  · rw [if_pos (by omega)] at hx
    rw [if_pos g1] at hm
    exact no _ hx hm
  rw [if_neg (by omega)] at hx
  rw [if_neg g1] at hm
  obtain ⟨x4, a4, -, hx⟩ := hx
  obtain ⟨y4, b4, -, hm⟩ := hm
  have q4 := q_in b4
  have e4 := (q_within a4).eq q4 Iff.rfl
  by_cases g4 : y4 = 0
  · rw [if_neg (fun hh => hh (by omega))] at hx
    rw [if_neg (fun hh => hh g4)] at hm
    exact no _ hx hm
  rw [if_pos (by omega)] at hx
  rw [if_pos g4] at hm
  have hw : 4 ≤ w ∧ w ≤ 24 := by
    rcases q4 with ⟨-, q⟩ | ⟨q, -⟩
    · exact q
    · exact absurd q g4
  rcases hc with hc | ⟨-, l2, n2, m2, rfl, rfl, rfl, hn, h33, h34, hj⟩
  · exact absurd hc g1
  have hE2 := hE.2
  have M0 : zMt W X1 l2 m2 := ⟨fun i i0 _ _ i3 i4 => o1 i i0 i3 i4, o0, h33, h34, fun j hjm => (hj j hjm).1⟩
  have S0 : zSt V R V R := ⟨fun _ _ => rfl, fun _ _ => rfl, hC⟩
  obtain ⟨v0, V7, J7, R7, k7, -, hx⟩ := hx
  unfold f_s_livesAsItIs at k7
  obtain ⟨Va, ka, -, k7⟩ := k7
  obtain ⟨vb, Vb, Jb, Rb, kb, -, k7⟩ := k7
  simp only [rtn, Prod.mk.injEq] at k7
  obtain ⟨f1, f2, f3, f4⟩ := k7
  obtain ⟨w0, W7, Jm7, Rm7, c7, -, hm⟩ := hm
  have n123 := hn
  obtain ⟨n1, n2', n3, n4, n5, n6, n7⟩ := n123
  obtain ⟨-, ta8, ta⟩ := q_take n1 n3.2 h.1.1 n5 ka
  have ten : ∀ j : Nat, j < m2 → Va 104 j = X1 21 j ∧ 0 ≤ X1 21 j ∧ X1 21 j ≤ 10 := fun j hjm => by
    have zr := zLw_r (N := W 1) j
    rw [(ta j hjm).2, (hj j hjm).2]
    exact ⟨rfl, hE2 _ (by omega)⟩
  have La := S0.lk h hq hE h31 hn M0 ka (fun _ _ => rfl) ten
  obtain ⟨z1, -, z3, z4⟩ := z_s La n3.2 n2'.2 n4 kb
  obtain ⟨q1, q2⟩ := z_m La n3.2 n2'.2 n4 c7
  have Lb : zLk Rb Vb W7 l2 0 m2 := (La.s z4 z3).m q2
  have v11 : Vb 98 11 = W7 1 (4 + l2) := by
    rw [z4.2.1 11 (by decide) (by decide), ta8.2.2.2.1, q2 1 (by decide) (by decide), o1 1 (by decide) (by decide) (by decide)]
  have w71 : W7 1 = W 1 := by rw [q2 1 (by decide) (by decide), o1 1 (by decide) (by decide) (by decide)]
  rw [f1, f2, f3, f4] at hx
  obtain ⟨V8, k8, hx⟩ := rdb_g hx
  obtain ⟨v9, V9, J9, R9, k9, -, hx⟩ := hx
  obtain ⟨p8, d8, hm⟩ := rdb_g hm
  obtain ⟨-, hm⟩ := hm
  obtain ⟨p9, d9, hm⟩ := rdb_g hm
  obtain ⟨-, hm⟩ := hm
  obtain ⟨W10, d10, hm⟩ := rdb_g hm
  obtain ⟨p11, d11, hm⟩ := hm
  have d11 := q_min d11
  obtain ⟨W13, d13, hm⟩ := rdb_g hm
  obtain ⟨W14, d14, hm⟩ := rdb_g hm
  obtain ⟨v15, W15, J15, R15, c15, -, hm⟩ := hm
  rw [Int.toNat_natCast] at d8 d10
  rw [show ((l2 : Int) + 4).toNat = 4 + l2 by omega] at d9 d13
  rw [← d9] at d11
  have Lc : zLk Rb V8 W14 l2 0 m2 := Lb.pot hw v11 k8.symm (by rw [← d14, ← d13, ← d10, d11])
  obtain ⟨r1, -, r3, r4⟩ := z_s Lc n3.2 n2'.2 n4 k9
  obtain ⟨s1, s2⟩ := z_m Lc n3.2 n2'.2 n4 c15
  simp only [rdb, rtn, Prod.mk.injEq] at hx hm
  rw [hx.1, hm.1, hx.2.2.2, r1, s1, z1, q1]
  exact ⟨rfl, r3⟩
set_option maxRecDepth 100000 in
theorem x_ruleFor {l n m c w a b : Int} {V V2 J J2 W Jm X Jm2 : Nat → Nat → Int} {R R2 Rm Rm2 : Nat → Nat → Nat} (h : WR R V W) (hC : zCr R) (hq : zLq V) (hE : zEw (W 1)) (h31 : W 0 31 = -1) (hx : f_s_ruleFor l n m c w V J R (a, (V2, J2, R2))) (hm : f_m_ruleFor l n m c w W Jm Rm (b, (X, Jm2, Rm2))) : a = b ∧ zCr R2 ∧ X 0 31 = -1 := by
  unfold f_s_ruleFor at hx
  unfold f_m_ruleFor at hm
  obtain ⟨x1, a1, -, hx⟩ := hx
  obtain ⟨y1, X1, b1, -, -, hm⟩ := hm
  obtain ⟨e1, o1, o0, hc⟩ := w_go h.1.1 a1 b1
  have no : ∀ (X : Nat → Nat → Int), rtn ((-1 : Int), (V, J, R)) (a, (V2, J2, R2)) → rtn ((-1 : Int), (X1, Jm, Rm)) (b, (X, Jm2, Rm2)) → a = b ∧ zCr R2 ∧ X 0 31 = -1 := fun X hx hm => by
    simp only [rtn, Prod.mk.injEq] at hx hm
    rw [hx.1, hm.1, hx.2.2.2, hm.2.1, o0 31 (by decide) (by decide)]
    exact ⟨rfl, hC, h31⟩
  by_cases g1 : y1 = 0
  · rw [if_pos (by omega)] at hx
    rw [if_pos g1] at hm
    exact no _ hx hm
  rw [if_neg (by omega)] at hx
  rw [if_neg g1] at hm
  obtain ⟨x4, a4, -, hx⟩ := hx
  obtain ⟨y4, b4, -, hm⟩ := hm
  have q4 := q_in b4
  have e4 := (q_within a4).eq q4 Iff.rfl
  by_cases g4 : y4 = 0
  · rw [if_pos (by omega)] at hx
    rw [if_pos g4] at hm
    exact no _ hx hm
  rw [if_neg (by omega)] at hx
  rw [if_neg g4] at hm
  have hcc : 1 ≤ c ∧ c ≤ 9 := by
    rcases q4 with ⟨-, q⟩ | ⟨q, -⟩
    · exact q
    · exact absurd q g4
  obtain ⟨x7, a7, -, hx⟩ := hx
  obtain ⟨y7, b7, -, hm⟩ := hm
  have e7 := (q_within a7).eq (q_in b7) Iff.rfl
  by_cases g7 : y7 = 0
  · rw [if_neg (fun hh => hh (by omega))] at hx
    rw [if_neg (fun hh => hh g7)] at hm
    exact no _ hx hm
  rw [if_pos (by omega)] at hx
  rw [if_pos g7] at hm
  rcases hc with hc | ⟨-, l2, n2, m2, rfl, rfl, rfl, hn, h33, h34, hj⟩
  · exact absurd hc g1
  obtain ⟨V10, k10, -, hx⟩ := hx
  obtain ⟨L0, -⟩ := zLk.t h.1.1 h.1.2 h.2.2.2.1.1 hq hC hE hn h31 k10 (fun i i0 _ _ i3 i4 => o1 i i0 i3 i4) o0 h33 h34 hj
  obtain ⟨n1, n2', n3, n4, n5, n6, n7⟩ := hn
  obtain ⟨X10, d10, hm⟩ := rdb_g hm
  obtain ⟨bX, hbX, hx⟩ := zlop6 hx
  obtain ⟨bM, hbM, hm⟩ := zlop6 hm
  clear h hE k10 a1 b1 a4 b4 a7 b7
  -- as far as the rule goes: 31 holds the cups
  have key : ∀ (f f2 t : Nat) (fx mo bc br : Int) (Y Z : Nat → Nat → Int) (Q : Nat → Nat → Nat) (S S0 T : Nat → Nat → Int) (P : Nat → Nat → Nat), t ≤ 25 → zLk Q Y S0 l2 fx m2 → (∀ i : Nat, i ≠ 0 → S i = S0 i) → S 0 31 = c → S 0 33 = S0 0 33 → S 0 34 = S0 0 34 → (t = 0 ∧ mo = -1 ∨ bc = br) → lop6 f bX (t : Int) mo bc Y Z Q (a, (V2, J2, R2)) → lop6 f2 bM (t : Int) mo br S T P (b, (X, Jm2, Rm2)) → a = b ∧ zCr R2 ∧ X 0 31 = -1 := by
    intro f
    induction f with
    | zero => intro f2 t fx mo bc br Y Z Q S S0 T P _ _ _ _ _ _ _ h; exact False.elim h
    | succ f ih =>
      intro f2 t fx mo bc br Y Z Q S S0 T P ht hL hS s31 s33 s34 hb hx hm
      cases f2 with
      | zero => exact False.elim hm
      | succ f2 =>
        rw [lop6_s hbX] at hx
        rw [lop6_s hbM] at hm
        by_cases g : (24 : Int) < t
        · rw [if_pos g] at hx hm
          obtain ⟨X9, d9, hm⟩ := rdb_g hm
          have eb : bc = br := by
            rcases hb with ⟨e, -⟩ | e
            · omega
            · exact e
          have x31 : X9 0 31 = -1 := by rw [← d9, up2_s]
          by_cases gw : w = 0
          · rw [if_neg (fun hh => hh gw)] at hx hm
            simp only [rtn, Prod.mk.injEq] at hx hm
            rw [hx.1, hm.1, hx.2.2.2, hm.2.1]
            exact ⟨eb, hL.1.2.2.1, x31⟩
          · rw [if_pos gw] at hx hm
            simp only [rtn, Prod.mk.injEq] at hx hm
            rw [hx.1, hm.1, hx.2.2.2, hm.2.1]
            exact ⟨rfl, hL.1.2.2.1, x31⟩
        · rw [if_neg g] at hx hm
          obtain ⟨Ya, ka, -, hx⟩ := hx
          have ka : Ya = up2 (up2 Y 98 14 (t : Int)) 98 15 c := ka
          obtain ⟨Sa, da, hm⟩ := rdb_g hm
          have La : zLk Q Ya Sa l2 c m2 := hL.rule hcc ka (fun i hi => by rw [← da, up2_c _ _ hi]; exact hS i hi) (by rw [← da, up2_n _ _ (Or.inr (by decide))]; exact s31) (by rw [← da, up2_s]) (by rw [← da, up2_n _ _ (Or.inr (by decide))]; exact s33) (by rw [← da, up2_n _ _ (Or.inr (by decide))]; exact s34)
          obtain ⟨v, Yb, Zb, Qb, kb, -, hx⟩ := hx
          obtain ⟨v2, Sb, Tb, Pb, kb2, -, hm⟩ := hm
          obtain ⟨r1, -, r3, r4⟩ := z_s La n3.2 n2'.2 n4 kb
          obtain ⟨q1, q2⟩ := z_m La n3.2 n2'.2 n4 kb2
          have ev : v2 = v := by rw [r1, q1]
          rw [ev] at hm
          have vn : 0 ≤ v := by rw [r1]; exact zVl_nn La
          have Lb : zLk Qb Yb Sb l2 c m2 := (La.s r4 r3).m q2
          have b31 : Sb 0 31 = c := by rw [q2 0 (by decide) (by decide), ← da, up2_n _ _ (Or.inr (by decide))]; exact s31
          rw [show ((t : Int) + 1) = ((t + 1 : Nat) : Int) by omega] at hx hm
          simp only [jnk] at hx hm
          by_cases gv : v ≤ mo
          · rw [if_pos ((lcI_le _ _).mpr gv)] at hx
            rw [if_neg (fun hh => by have := (lcI_gt _ _).mp hh; omega)] at hm
            refine ih f2 (t + 1) c mo bc br Yb Zb Qb Sb Sb Tb Pb (by omega) Lb (fun _ _ => rfl) b31 rfl rfl (Or.inr ?_) hx hm
            rcases hb with ⟨-, e⟩ | e
            · omega
            · exact e
          · rw [if_neg (fun hh => gv ((lcI_le _ _).mp hh))] at hx
            rw [if_pos ((lcI_gt _ _).mpr (by omega))] at hm
            exact ih f2 (t + 1) c v t t Yb Zb Qb Sb Sb Tb Pb (by omega) Lb (fun _ _ => rfl) b31 rfl rfl (Or.inr rfl) hx hm
  exact key 27 27 0 0 (-1) (-1) 0 V10 J R X10 X1 Jm Rm (by decide) L0 (fun i hi => by rw [← d10, up2_c _ _ hi]) (by rw [← d10, up2_s]) (by rw [← d10, up2_n _ _ (Or.inr (by decide))]) (by rw [← d10, up2_n _ _ (Or.inr (by decide))]) (Or.inl ⟨rfl, rfl⟩) hx hm
set_option maxRecDepth 100000 in
theorem x_exactly {l n m w a b : Int} {V V2 J J2 W Jm X Jm2 : Nat → Nat → Int} {R R2 Rm Rm2 : Nat → Nat → Nat} (h : WR R V W) (hC : zCr R) (hq : zLq V) (hE : zEw (W 1)) (h31 : W 0 31 = -1) (hx : f_s_exactly l n m w V J R (a, (V2, J2, R2))) (hm : f_m_exactly l n m w W Jm Rm (b, (X, Jm2, Rm2))) : zCr R2 := by
  unfold f_s_exactly at hx
  unfold f_m_exactly at hm
  obtain ⟨x1, a1, -, hx⟩ := hx
  obtain ⟨y1, X1, b1, -, -, hm⟩ := hm
  obtain ⟨e1, o1, o0, hc⟩ := w_go h.1.1 a1 b1
  have no : rtn ((-1 : Int), (V, J, R)) (a, (V2, J2, R2)) → zCr R2 := fun hx => by
    simp only [rtn, Prod.mk.injEq] at hx
    rw [hx.2.2.2]
    exact hC
  by_cases g1 : y1 = 0
  · rw [if_pos (by omega)] at hx
    exact no hx
  rw [if_neg (by omega)] at hx
  obtain ⟨x4, a4, -, hx⟩ := hx
  by_cases g4 : x4 = 0
  · rw [if_neg (fun hh => hh g4)] at hx
    exact no hx
  rw [if_pos g4] at hx
  rcases hc with hc | ⟨-, l2, n2, m2, rfl, rfl, rfl, hn, h33, h34, hj⟩
  · exact absurd hc g1
  obtain ⟨v0, V7, J7, R7, k7, -, hx⟩ := hx
  unfold f_s_livesAsItIs at k7
  obtain ⟨Va, ka, -, k7⟩ := k7
  obtain ⟨vb, Vb, Jb, Rb, kb, -, k7⟩ := k7
  simp only [rtn, Prod.mk.injEq] at k7
  obtain ⟨f1, f2, f3, f4⟩ := k7
  obtain ⟨L0, -⟩ := zLk.t h.1.1 h.1.2 h.2.2.2.1.1 hq hC hE hn h31 ka (fun i i0 _ _ i3 i4 => o1 i i0 i3 i4) o0 h33 h34 hj
  obtain ⟨n1, n2', n3, n4, n5, n6, n7⟩ := hn
  obtain ⟨-, -, r3, -⟩ := z_s L0 n3.2 n2'.2 n4 kb
  by_cases gw : w = -1
  · rw [if_neg (fun hh => hh gw)] at hx
    simp only [rdb, rtn, Prod.mk.injEq] at hx
    rw [hx.2.2.2, f4]
    exact r3
  · rw [if_pos gw] at hx
    obtain ⟨z, -, hx⟩ := hx
    simp only [rtn, Prod.mk.injEq] at hx
    rw [hx.2.2.2, f4]
    exact r3
end
section
-- answers: how few (own work)
theorem jD10 {k : Nat} (hk : k + 1 ≤ 18) : jDiv (p10 (k + 1)) 10 = p10 k := by
  have a := p10_l (k + 1) hk
  rw [jDiv_e ⟨by omega, by omega⟩ ⟨by decide, by decide⟩]
  show (10 * p10 k) / 10 = p10 k
  omega
theorem zTp_v {bears pot c v : Int} {g L : Nat → Int} : zTp bears pot c g (fun s => v * L s) = fun s => v * zTp bears pot c g L s := funext fun s => by
  unfold zTp
  split
  · rw [← Int.mul_assoc, ← Int.mul_assoc, Int.mul_comm 10]
  · rw [Int.mul_add, ← Int.mul_assoc, ← Int.mul_assoc, ← Int.mul_assoc, ← Int.mul_assoc, Int.mul_comm v, Int.mul_comm v]
theorem zTd_v {bears pot v : Int} {e h L : Nat → Int} : zTd bears pot e h (fun s => v * L s) = fun s => v * zTd bears pot e h L s := funext fun s => by
  unfold zTd
  split
  · rw [← Int.mul_assoc, ← Int.mul_assoc, Int.mul_comm 10]
  · rw [Int.mul_add, ← Int.mul_assoc, ← Int.mul_assoc, ← Int.mul_assoc, ← Int.mul_assoc, Int.mul_comm v]
theorem zPs_v {bears pot v : Int} {c : Nat → Int} {g : Nat → Nat → Int} {L : Nat → Int} : ∀ (k i : Nat), zPs bears pot c g k i (fun s => v * L s) = fun s => v * zPs bears pot c g k i L s
  | 0, _ => rfl
  | k + 1, i => by
    show zTp _ _ _ _ (zPs _ _ _ _ k (i + 1) _) = _
    rw [zPs_v k (i + 1), zTp_v]
    rfl
theorem zPs_a {bears pot : Int} {c : Nat → Int} {g : Nat → Nat → Int} {L : Nat → Int} : ∀ (k r i : Nat), zPs bears pot c g (k + r) i L = zPs bears pot c g k i (zPs bears pot c g r (i + k) L)
  | 0, r, i => by rw [Nat.zero_add]; rfl
  | k + 1, r, i => by
    rw [show k + 1 + r = (k + r) + 1 by omega]
    show zTp _ _ _ _ (zPs _ _ _ _ (k + r) (i + 1) _) = zTp _ _ _ _ (zPs _ _ _ _ k (i + 1) _)
    rw [zPs_a k r (i + 1), show i + 1 + k = i + (k + 1) by omega]
theorem zPs_z {bears pot : Int} {c : Nat → Int} {g : Nat → Nat → Int} {L : Nat → Int} : ∀ (k i : Nat), (∀ j : Nat, i ≤ j → j < i + k → c j = 0) → zPs bears pot c g k i L = fun s => p10 k * L s
  | 0, _, _ => funext fun s => by
    show L s = 1 * L s
    omega
  | k + 1, i, h => by
    show zTp _ _ (c i) _ (zPs _ _ _ _ k (i + 1) _) = _
    rw [zPs_z k (i + 1) (fun j j1 j2 => h j (by omega) (by omega)), h i (by omega) (by omega), zTp_v]
    funext s
    show p10 k * zTp bears pot 0 (g i) L s = 10 * p10 k * L s
    have e : zTp bears pot 0 (g i) L s = 10 * L s := by
      unfold zTp
      split <;> omega
    rw [e, ← Int.mul_assoc, Int.mul_comm (p10 k)]
theorem zDs_f {bears pot : Int} {c : Nat → Int} {k r : Nat} {g : Nat → Nat → Nat → Int} {e h : Nat → Nat → Int} {L : Nat → Int} (hc : ∀ j : Nat, k ≤ j → j < k + r → c j = 0) : ∀ (n d : Nat), zDs bears pot c (k + r) g e h n d L = fun s => p10 (n * r) * zDs bears pot c k g e h n d L s
  | 0, d => funext fun s => by
    show L s = p10 (0 * r) * L s
    rw [Nat.zero_mul]
    show L s = 1 * L s
    omega
  | n + 1, d => by
    show zPs bears pot c (g d) (k + r) 0 (zTd bears pot (e d) (h d) (zDs bears pot c (k + r) g e h n (d + 1) L)) = _
    rw [zDs_f hc n (d + 1), zTd_v, zPs_a k r 0, zPs_z r (0 + k) (fun j j1 j2 => hc j (by omega) (by omega)), zPs_v, zPs_v, Nat.add_mul, Nat.one_mul, p10_a]
    funext s
    rw [Int.mul_comm (p10 (n * r)) (p10 r), Int.mul_assoc]
    rfl
set_option maxRecDepth 100000 in
theorem z_m2 {n k m l : Nat} {fx b : Int} {V U W Jm X J2 : Nat → Nat → Int} {R Rm R2 : Nat → Nat → Nat} (hL : zLk R V W l fx m) (hT : RTx R U W) (hq : zLq U) (hk : k ≤ m) (hm3 : m ≤ 3) (hn : n ≤ 9) (hnm : n * (k + 1) ≤ 18) (hm : f_m_goesThrough (n : Int) (k : Int) W Jm Rm (b, (X, J2, R2))) : b = zVl R U W l fx k n ∧ ∀ j : Nat, j ≠ 17 → j ≠ 18 → X j = W j := by
  obtain ⟨⟨a1, a2, a3, a4⟩, ⟨b1, b2, b3, b4, b5, b6, b7, b8⟩, ⟨c1, c2, c3⟩, d1, ⟨e1, e2, e3⟩, f1, f2, f3, f4, f5, f6, f7, f8⟩ := hL
  exact q_goesThrough (Rx := R) (Vx := U) (fx := fx) hm (by omega) hn hnm ⟨hT, hq, e1, a4, by omega, by rw [e2]; omega, by omega, e3⟩ (by omega) f2.1 f3 f4.2 (fun i hi => (f5 i (by omega)).1) (fun i hi => (f5 i (by omega)).2) (by omega) f6 f7 f8
/-- the first k alone: the others' tenths are 0 -/
theorem zVl_f {R : Nat → Nat → Nat} {V W X : Nat → Nat → Int} {l k m n : Nat} {fx : Int} (hk : k ≤ m) (hX : ∀ i : Nat, i ≠ 21 → X i = W i) (h1 : ∀ j : Nat, j < k → X 21 j = W 21 j) (h2 : ∀ j : Nat, k ≤ j → j < m → X 21 j = 0) : zVl R V X l fx m n = p10 (n * (m - k)) * zVl R V W l fx k n := by
  obtain ⟨r, rfl⟩ : ∃ r : Nat, m = k + r := ⟨m - k, by omega⟩
  rw [show k + r - k = r by omega]
  unfold zVl
  rw [hX 1 (by decide), zDs_f (fun j j1 j2 => h2 j j1 j2)]
  refine congrArg _ (congrFun (zDs_c (fun j hj => h1 j hj) n 0 (fun q j _ hj => funext fun s => ?_) (fun q => ⟨funext fun s => ?_, funext fun s => ?_⟩)) _)
  · unfold gvD
    rw [hX 1 (by decide), hX 0 (by decide), hX 20 (by decide), h1 j hj]
  · unfold goD
    rw [hX 1 (by decide), hX 0 (by decide)]
  · unfold goD
    rw [hX 1 (by decide), hX 0 (by decide)]
theorem q_onlyFirst {k m : Nat} {V J U : Nat → Nat → Int} {R : Nat → Nat → Nat} (hm : V 98 8 = (m : Int)) (h : f_s_onlyFirst (k : Int) V J R U) : (∀ j : Nat, j ≠ 104 → U j = V j) ∧ (∀ j : Nat, j < k → U 104 j = V 104 j) ∧ ∀ j : Nat, k ≤ j → j < m → U 104 j = 0 := by
  unfold f_s_onlyFirst at h
  obtain ⟨b, hb, h⟩ := lop2_g h
  have key : ∀ (f x : Nat) (Y : Nat → Nat → Int), k ≤ x → (∀ j : Nat, j ≠ 104 → Y j = V j) → (∀ j : Nat, j < k → Y 104 j = V 104 j) → (∀ j : Nat, k ≤ j → j < x → Y 104 j = 0) → lop2 f b (x : Int) Y U → (∀ j : Nat, j ≠ 104 → U j = V j) ∧ (∀ j : Nat, j < k → U 104 j = V 104 j) ∧ ∀ j : Nat, k ≤ j → j < m → U 104 j = 0 := by
    intro f
    induction f with
    | zero => intro x Y _ _ _ _ h; exact False.elim h
    | succ f ih =>
      intro x Y hx hY h1 h2 h
      rw [lop2_s hb] at h
      obtain ⟨-, h⟩ := h
      rw [hY 98 (by decide), hm] at h
      by_cases g : (m : Int) ≤ x
      · rw [if_pos g] at h
        have h : U = Y := h
        rw [h]
        exact ⟨hY, h1, fun j j1 j2 => h2 j j1 (by omega)⟩
      · rw [if_neg g] at h
        obtain ⟨Y2, e2, h⟩ := rdb_g h
        rw [Int.toNat_natCast] at e2
        rw [show ((x : Int) + 1) = ((x + 1 : Nat) : Int) by omega] at h
        refine ih (x + 1) Y2 (by omega) (fun j hj => by rw [← e2, up2_c _ _ hj]; exact hY j hj) (fun j hj => ?_) (fun j j1 j2 => ?_) h
        · rw [← e2, up2_n _ _ (Or.inr (by omega))]; exact h1 j hj
        · rw [← e2, up2_row]
          by_cases e : j = x
          · subst e; rw [up1_s]
          · rw [up1_n _ _ e]; exact h2 j j1 (by omega)
  exact key 5 k V (Nat.le_refl _) (fun _ _ => rfl) (fun _ _ => rfl) (fun j j1 j2 => by omega) h
set_option maxRecDepth 100000 in
theorem x_few {l n m w a b : Int} {V V2 J J2 W Jm X Jm2 : Nat → Nat → Int} {R R2 Rm Rm2 : Nat → Nat → Nat} (h : WR R V W) (hC : zCr R) (hq : zLq V) (hE : zEw (W 1)) (h31 : W 0 31 = -1) (hx : f_s_few l n m w V J R (a, (V2, J2, R2))) (hm : f_m_few l n m w W Jm Rm (b, (X, Jm2, Rm2))) : a = b ∧ zCr R2 := by
  unfold f_s_few at hx
  unfold f_m_few at hm
  obtain ⟨x1, a1, -, hx⟩ := hx
  obtain ⟨y1, X1, b1, -, -, hm⟩ := hm
  obtain ⟨e1, o1, o0, hc⟩ := w_go h.1.1 a1 b1
  have no : ∀ (X : Nat → Nat → Int), rtn ((-1 : Int), (V, J, R)) (a, (V2, J2, R2)) → rtn ((-1 : Int), (X1, Jm, Rm)) (b, (X, Jm2, Rm2)) → a = b ∧ zCr R2 := fun X hx hm => by
    simp only [rtn, Prod.mk.injEq] at hx hm
    rw [hx.1, hm.1, hx.2.2.2]
    exact ⟨rfl, hC⟩
  by_cases g1 : y1 = 0
  · rw [if_pos (by omega)] at hx
    rw [if_pos g1] at hm
    exact no _ hx hm
  rw [if_neg (by omega)] at hx
  rw [if_neg g1] at hm
  obtain ⟨x4, a4, -, hx⟩ := hx
  obtain ⟨y4, b4, -, hm⟩ := hm
  have q4 := q_in b4
  have e4 := (q_within a4).eq q4 Iff.rfl
  by_cases g4 : y4 = 0
  · rw [if_neg (fun hh => hh (by omega))] at hx
    rw [if_neg (fun hh => hh g4)] at hm
    exact no _ hx hm
  rw [if_pos (by omega)] at hx
  rw [if_pos g4] at hm
  have hw : 0 ≤ w ∧ w ≤ 10 := by
    rcases q4 with ⟨-, q⟩ | ⟨q, -⟩
    · exact q
    · exact absurd q g4
  rcases hc with hc | ⟨-, l2, n2, m2, rfl, rfl, rfl, hn, h33, h34, hj⟩
  · exact absurd hc g1
  have hE2 := hE.2
  have M0 : zMt W X1 l2 m2 := ⟨fun i i0 _ _ i3 i4 => o1 i i0 i3 i4, o0, h33, h34, fun j hjm => (hj j hjm).1⟩
  have S0 : zSt V R V R := ⟨fun _ _ => rfl, fun _ _ => rfl, hC⟩
  have T0 : ∀ j : Nat, j < m2 → X1 21 j = W 1 (52 + (zLw (W 1) j).toNat) := fun j hjm => (hj j hjm).2
  have n123 := hn
  obtain ⟨n1, n2', n3, n4, n5, n6, n7⟩ := n123
  clear a1 b1 a4 b4
  obtain ⟨bX, hbX, hx⟩ := zlop4 hx
  obtain ⟨bM, hbM, hm⟩ := zlop4 hm
  have key : ∀ (f f2 k : Nat) (Y Z : Nat → Nat → Int) (Q : Nat → Nat → Nat) (S T : Nat → Nat → Int) (P : Nat → Nat → Nat), k ≤ m2 + 1 → zSt V R Y Q → zMt W S l2 m2 → (∀ j : Nat, j < m2 → S 21 j = W 1 (52 + (zLw (W 1) j).toNat)) → lop4 f bX (k : Int) Y Z Q (a, (V2, J2, R2)) → lop4 f2 bM (k : Int) S T P (b, (X, Jm2, Rm2)) → a = b ∧ zCr R2 := by
    intro f
    induction f with
    | zero => intro f2 k Y Z Q S T P _ _ _ _ h; exact False.elim h
    | succ f ih =>
      intro f2 k Y Z Q S T P hk hS hM hT hx hm
      cases f2 with
      | zero => exact False.elim hm
      | succ f2 =>
        rw [lop4_s hbX] at hx
        rw [lop4_s hbM] at hm
        by_cases g : (m2 : Int) < k
        · rw [if_pos g] at hx hm
          simp only [rtn, Prod.mk.injEq] at hx hm
          rw [hx.1, hm.1, hx.2.2.2]
          exact ⟨rfl, hS.2.2⟩
        rw [if_neg g] at hx hm
        have hkm : k ≤ m2 := by omega
        obtain ⟨Ya, ka, -, hx⟩ := hx
        obtain ⟨Yb, kb, -, hx⟩ := hx
        have hRY := h.1.1.cg2 (U := Y) (M := W 1) (fun i _ i2 => hS.1 i (by omega)) (fun _ _ => rfl)
        obtain ⟨t1, ⟨t8, -⟩, t3⟩ := q_take n1 n3.2 hRY n5 ka
        obtain ⟨u1, u2, u3⟩ := q_onlyFirst t8 kb
        have ten : ∀ j : Nat, 0 ≤ W 1 (52 + (zLw (W 1) j).toNat) ∧ W 1 (52 + (zLw (W 1) j).toNat) ≤ 10 := fun j => by
          have zr := zLw_r (N := W 1) j
          exact hE2 _ (by omega)
        -- as if the others' tenths were 0 in the reference, too
        have hX0 : ∀ i : Nat, i ≠ 21 → (fun i : Nat => if i = 21 then Yb 104 else S i) i = S i := fun i hi => if_neg hi
        have hX21 : (fun i : Nat => if i = 21 then Yb 104 else S i) 21 = Yb 104 := if_pos rfl
        generalize (fun i : Nat => if i = 21 then Yb 104 else S i) = S9 at hX0 hX21
        have M9 : zMt W S9 l2 m2 := ⟨fun i i0 i1 i2 i3 i4 => by rw [hX0 i i4]; exact hM.1 i i0 i1 i2 i3 i4, fun k k1 k2 => by rw [hX0 0 (by decide)]; exact hM.2.1 k k1 k2, by rw [hX0 0 (by decide)]; exact hM.2.2.1, by rw [hX0 0 (by decide)]; exact hM.2.2.2.1, fun j hjm => by rw [hX0 20 (by decide)]; exact hM.2.2.2.2 j hjm⟩
        have L9 := hS.lk h hq hE h31 hn M9 ka u1 (fun j hjm => by
          rw [hX21]
          refine ⟨rfl, ?_⟩
          by_cases e : j < k
          · rw [u2 j e, (t3 j hjm).2]; exact ten j
          · rw [u3 j (by omega) hjm]; decide)
        have La := hS.lk (Yb := Ya) h hq hE h31 hn hM ka (fun _ _ => rfl) (fun j hjm => by
          rw [(t3 j hjm).2, hT j hjm]
          exact ⟨rfl, ten j⟩)
        obtain ⟨v, Yc, Zc, Qc, kc, -, hx⟩ := hx
        obtain ⟨r1, r2, r3, r4⟩ := z_s L9 n3.2 n2'.2 n4 kc
        obtain ⟨p61, e61, hm⟩ := rdb_g hm
        obtain ⟨-, hm⟩ := hm
        obtain ⟨p62, d62, -, hm⟩ := hm
        obtain ⟨v2, Sb, Tb, Pb, kc2, -, hm⟩ := hm
        have bnd : n2 * (k + 1) ≤ n2 * (m2 + 1) := Nat.mul_le_mul_left _ (by omega)
        obtain ⟨q1, q2⟩ := z_m2 La (L9.1.1.cg (fun _ _ _ _ => rfl) (fun i i1 i2 => (hX0 i (by omega)).symm)) L9.1.2.1 hkm n3.2 n2'.2 (by omega) kc2
        have tie : v = p10 (n2 * (m2 - k)) * v2 := by
          rw [r1, q1]
          refine zVl_f hkm hX0 (fun j hjk => ?_) (fun j j1 j2 => ?_)
          · rw [hX21, u2 j hjk, (t3 j (by omega)).2, hT j (by omega)]
          · rw [hX21]; exact u3 j j1 j2
        have n1p : 1 ≤ n2 * (k + 1) := Nat.mul_pos (by omega) (by omega)
        have ex : n2 * (m2 + 1) = n2 * (m2 - k) + n2 * (k + 1) := by rw [← Nat.mul_add]; congr 1; omega
        obtain ⟨q, eq⟩ : ∃ q : Nat, n2 * (k + 1) = q + 1 := ⟨n2 * (k + 1) - 1, by omega⟩
        have e62 : p61 - 1 = (q : Int) := by
          have : p61 = ((n2 * (k + 1) : Nat) : Int) := by rw [← e61]; simp
          omega
        rw [e62] at d62
        have d62 := z_tens d62
        obtain ⟨x79, e79, hx⟩ := rdb_g hx
        rw [r2, ex, eq, ← Nat.add_assoc] at e79
        obtain ⟨x80, e80, hx⟩ := rdb_g hx
        rw [← e79, jD10 (by omega), p10_a] at e80
        obtain ⟨x81, e81, hx⟩ := rdb_g hx
        obtain ⟨y64, e64, hm⟩ := rdb_g hm
        have pq := p10_l q (by omega)
        have pP := p10_l (n2 * (m2 - k)) (by omega)
        have pA := p10_l (n2 * (m2 - k) + (q + 1)) (by omega)
        have pB : p10 (n2 * (m2 - k) + (q + 1)) = 10 * (p10 (n2 * (m2 - k)) * p10 q) := by
          rw [← Nat.add_assoc]
          show 10 * p10 (n2 * (m2 - k) + q) = _
          rw [p10_a]
        have pC := p10_l (q + 1) (by omega)
        have pD : p10 (q + 1) = 10 * p10 q := rfl
        have w1 := mul_b (a := p10 q) (b := w) (by omega) hw
        have pn := Int.mul_nonneg (show 0 ≤ p10 (n2 * (m2 - k)) by omega) (show 0 ≤ p10 q by omega)
        have w2 := mul_b (a := p10 (n2 * (m2 - k)) * p10 q) (b := w) pn hw
        rw [Int.mul_comm] at w1 w2
        rw [← e80, zWj ⟨by omega, by omega⟩] at e81
        rw [d62, zWj ⟨by omega, by omega⟩] at e64
        have sc : x81 = p10 (n2 * (m2 - k)) * y64 := by
          rw [← e81, ← e64, ← Int.mul_assoc, Int.mul_comm w, Int.mul_assoc]
        have S2 : zSt V R Yc Qc := by
          obtain ⟨s1, s2, s3⟩ := hS
          refine ⟨fun i hi => ?_, fun i hi => ?_, r3⟩
          · rw [r4.1 i (by omega) (by omega) (by omega) (by omega) (by omega) (by omega), u1 i (by omega), t1 i (by omega) (by omega) (by omega)]
            exact s1 i hi
          · rw [r4.2.2 i hi]; exact s2 i hi
        have M2 : zMt W Sb l2 m2 := by
          obtain ⟨m1, m2', m3, m4, m5⟩ := hM
          exact ⟨fun i i0 i1 i2 i3 i4 => by rw [q2 i i1 i2]; exact m1 i i0 i1 i2 i3 i4, fun k k1 k2 => by rw [q2 0 (by decide) (by decide)]; exact m2' k k1 k2, by rw [q2 0 (by decide) (by decide)]; exact m3, by rw [q2 0 (by decide) (by decide)]; exact m4, fun j hjm => by rw [q2 20 (by decide) (by decide)]; exact m5 j hjm⟩
        by_cases gv : v2 < y64
        · have g2 : v < x81 := by
            rw [tie, sc]
            exact Int.mul_lt_mul_of_pos_left gv (by omega)
          rw [if_pos ((lcI_lt _ _).mpr g2), show ((k : Int) + 1) = ((k + 1 : Nat) : Int) by omega] at hx
          rw [if_pos ((lcI_lt _ _).mpr gv), show ((k : Int) + 1) = ((k + 1 : Nat) : Int) by omega] at hm
          exact ih f2 (k + 1) Yc Zc Qc Sb Tb Pb (by omega) S2 M2 (fun j hjm => by rw [q2 21 (by decide) (by decide)]; exact hT j hjm) hx hm
        · have g2 : ¬ v < x81 := by
            rw [tie, sc]
            have := Int.mul_le_mul_of_nonneg_left (show y64 ≤ v2 by omega) (show 0 ≤ p10 (n2 * (m2 - k)) by omega)
            omega
          rw [if_neg (fun hh => g2 ((lcI_lt _ _).mp hh))] at hx
          rw [if_neg (fun hh => gv ((lcI_lt _ _).mp hh))] at hm
          simp only [rtn, Prod.mk.injEq] at hx hm
          rw [hx.1, hm.1, hx.2.2.2]
          exact ⟨rfl, r3⟩
  exact key 6 6 0 V J R X1 Jm Rm (by omega) S0 M0 T0 hx hm
end
section
-- PLANTS stay as they can be; the lists stay apart (own work)
theorem zEw.cg {N M : Nat → Int} (h : zEw N) (h1 : ∀ k : Nat, k < 20 → M k = N k) (h2 : ∀ k : Nat, 52 ≤ k → k < 60 → M k = N k) (h3 : M 76 = N 76) : zEw M := by
  obtain ⟨a, b⟩ := h
  refine ⟨fun l hl hb => ?_, fun p hp => ?_⟩
  · rw [h3] at hb
    rw [h1 l (by omega), h1 (4 + l) (by omega), h1 (8 + l) (by omega), h1 (12 + l) (by omega), h1 (16 + l) (by omega)]
    exact a l hl hb
  · rw [h2 _ (by omega) (by omega)]
    exact b p hp
/-- one PLANT changes -/
theorem zEw.one {N M : Nat → Int} (h : zEw N) {l : Nat} (h1 : ∀ q : Nat, q < 4 → q ≠ l → M q = N q ∧ M (4 + q) = N (4 + q) ∧ M (8 + q) = N (8 + q) ∧ M (12 + q) = N (12 + q) ∧ M (16 + q) = N (16 + q) ∧ bt (M 76) (q : Int) = bt (N 76) (q : Int)) (h2 : ∀ k : Nat, 52 ≤ k → k < 60 → M k = N k) (h3 : 4 ≤ M l ∧ M (4 + l) ≤ M l ∧ 1 ≤ M (8 + l) ∧ (M (12 + l) = 0 ∨ M (16 + l) = 0)) : zEw M := by
  obtain ⟨a, b⟩ := h
  refine ⟨fun q hq hb => ?_, fun p hp => ?_⟩
  · by_cases e : q = l
    · subst e; exact h3
    · obtain ⟨c1, c2, c3, c4, c5, c6⟩ := h1 q hq e
      rw [c6] at hb
      rw [c1, c2, c3, c4, c5]
      exact a q hq hb
  · rw [h2 _ (by omega) (by omega)]
    exact b p hp
/-- now and kept -/
def zEx (W : Nat → Nat → Int) : Prop := zEw (W 1) ∧ (W 0 53 = 0 ∨ zEw (W 3))
theorem zEx.keep {W X : Nat → Nat → Int} (h : zEx W) (m1 : ∀ k : Nat, k < 81 → X 1 k = W 1 k) (m3 : X 3 = W 3) (m5 : X 0 53 = W 0 53) : zEx X := by
  obtain ⟨a, b⟩ := h
  refine ⟨a.cg (fun k h2 => m1 k (by omega)) (fun k _ h2 => m1 k (by omega)) (m1 76 (by decide)), ?_⟩
  rw [m5, m3]
  exact b
theorem zEx.land {W X : Nat → Nat → Int} (h : zEx W) (h1 : zEw (X 1)) (hm : ∀ i : Nat, i ≠ 1 → X i = W i) : zEx X := by
  refine ⟨h1, ?_⟩
  rw [hm 0 (by decide), hm 3 (by decide)]
  exact h.2
theorem ex_plant {x p w d b : Int} {V W Jm X : Nat → Nat → Int} {R Rm : Nat → Nat → Nat} (h : WR R V W) (hG : zEx W) (hm : f_m_plant x p w d W Jm Rm (b, X)) : zEx X := by
  have no : ∀ c : Int, rtn (c, W) (b, X) → zEx X := fun c h => by
    simp only [rtn, Prod.mk.injEq] at h
    rw [h.2]; exact hG
  unfold f_m_plant at hm
  obtain ⟨y1, k1, -, hm⟩ := hm
  by_cases g1 : y1 = 0
  · rw [if_pos g1] at hm; exact no _ hm
  rw [if_neg g1] at hm
  have g1 := (q_mIn k1).on g1
  obtain ⟨y5, k5, -, hm⟩ := hm
  by_cases g5 : y5 = 0
  · rw [if_pos g5] at hm; exact no _ hm
  rw [if_neg g5] at hm
  have g5 := (q_mIn k5).on g5
  obtain ⟨y8, k8, -, hm⟩ := hm
  by_cases g8 : y8 = 0
  · rw [if_pos g8] at hm; exact no _ hm
  rw [if_neg g8] at hm
  have g8 := (q_mIn k8).on g8
  obtain ⟨y12, k12, -, hm⟩ := hm
  by_cases g12 : y12 = 0
  · rw [if_neg (fun hh => hh g12)] at hm; exact no _ hm
  rw [if_pos g12] at hm
  have g12 := (q_mIn k12).on g12
  clear k1 k5 k8 k12
  obtain ⟨n, rfl⟩ : ∃ n : Nat, x = (n : Int) := ⟨x.toNat, by omega⟩
  have hn : n < 4 := by omega
  obtain ⟨s, f1, hm⟩ := rdb_g hm
  obtain ⟨s2, f2, hm⟩ := rdb_g hm
  obtain ⟨s3, f3, hm⟩ := rdb_g hm
  obtain ⟨W1, f4, hm⟩ := rdb_g hm
  obtain ⟨s5, f5, hm⟩ := rdb_g hm
  obtain ⟨s6, f6, hm⟩ := rdb_g hm
  obtain ⟨s7, f7, hm⟩ := rdb_g hm
  obtain ⟨s8, f8, hm⟩ := rdb_g hm
  obtain ⟨W2, f9, hm⟩ := rdb_g hm
  obtain ⟨W3, f10, hm⟩ := rdb_g hm
  obtain ⟨W4, f11, hm⟩ := rdb_g hm
  obtain ⟨W5, f12, hm⟩ := rdb_g hm
  obtain ⟨W6, f13, hm⟩ := rdb_g hm
  obtain ⟨W7, f14, hm⟩ := rdb_g hm
  obtain ⟨W8, f15, hm⟩ := rdb_g hm
  obtain ⟨-, m2, m3, m4⟩ := q_mFill rfl hm
  have r76 := h.1.1.2.2.2.2.2.1
  have o76 := bt_or (s := W 1 76) (p := n) ⟨r76.1, by omega⟩ ⟨by omega, by omega⟩
  have w8 : ∀ i : Nat, i ≠ 1 → W8 i = W i := fun i hi => by rw [← f15, up2_c _ _ hi, ← f14, up2_c _ _ hi, ← f13, up2_c _ _ hi, ← f12, up2_c _ _ hi, ← f11, up2_c _ _ hi, ← f10, up2_c _ _ hi, ← f9, up2_c _ _ hi, ← f4, up2_c _ _ hi]
  have e4 : ((n : Int) + 4).toNat = 4 + n := by omega
  have e8 : ((n : Int) + 8).toNat = 8 + n := by omega
  have e12 : ((n : Int) + 12).toNat = 12 + n := by omega
  have e16 : ((n : Int) + 16).toNat = 16 + n := by omega
  have e20 : ((n : Int) + 20).toNat = 20 + n := by omega
  have r8 : W8 1 = up1 (up1 (up1 (up1 (up1 (up1 (up1 (up1 (W 1) 76 s3) 77 s8) n p) (4 + n) w) (8 + n) d) (12 + n) 0) (16 + n) 0) (20 + n) (-2) := by
    rw [← f15, up2_row, ← f14, up2_row, ← f13, up2_row, ← f12, up2_row, ← f11, up2_row, ← f10, up2_row, ← f9, up2_row, ← f4, up2_row, e4, e8, e12, e16, e20, Int.toNat_natCast]
  have x76 : X 1 76 = iOr (W 1 76) (iShl 1 n) := by
    rw [m4 76 (by omega), r8, up1_of (by omega), up1_of (by omega), up1_of (by omega), up1_of (by omega), up1_of (by omega), up1_of (by omega), up1_of (by omega), up1_at, ← f3, ← f2, ← f1]
  have xo : ∀ k : Nat, k < 81 → k ≠ n → k ≠ 4 + n → k ≠ 8 + n → k ≠ 12 + n → k ≠ 16 + n → k ≠ 20 + n → ¬ (24 + 7 * n ≤ k ∧ k < 31 + 7 * n) → k ≠ 76 → k ≠ 77 → X 1 k = W 1 k := fun k _ k1 k2 k3 k4 k5 k6 k7 k8 k9 => by
    rw [m4 k k7, r8, up1_of k6, up1_of k5, up1_of k4, up1_of k3, up1_of k2, up1_of k1, up1_of k9, up1_of k8]
  have xn : X 1 n = p := by rw [m4 n (by omega), r8, up1_of (by omega), up1_of (by omega), up1_of (by omega), up1_of (by omega), up1_of (by omega), up1_at]
  have x4 : X 1 (4 + n) = w := by rw [m4 _ (by omega), r8, up1_of (by omega), up1_of (by omega), up1_of (by omega), up1_of (by omega), up1_at]
  have x8 : X 1 (8 + n) = d := by rw [m4 _ (by omega), r8, up1_of (by omega), up1_of (by omega), up1_of (by omega), up1_at]
  have x12 : X 1 (12 + n) = 0 := by rw [m4 _ (by omega), r8, up1_of (by omega), up1_of (by omega), up1_at]
  refine hG.land (hG.1.one (l := n) (fun q hq hqn => ⟨?_, ?_, ?_, ?_, ?_, ?_⟩) (fun k k1 k2 => ?_) ⟨by omega, by omega, by omega, Or.inl x12⟩) (fun i hi => by rw [m2 i hi, w8 i hi])
  · exact xo q (by omega) (by omega) (by omega) (by omega) (by omega) (by omega) (by omega) (by omega) (by omega) (by omega)
  · exact xo _ (by omega) (by omega) (by omega) (by omega) (by omega) (by omega) (by omega) (by omega) (by omega) (by omega)
  · exact xo _ (by omega) (by omega) (by omega) (by omega) (by omega) (by omega) (by omega) (by omega) (by omega) (by omega)
  · exact xo _ (by omega) (by omega) (by omega) (by omega) (by omega) (by omega) (by omega) (by omega) (by omega) (by omega)
  · exact xo _ (by omega) (by omega) (by omega) (by omega) (by omega) (by omega) (by omega) (by omega) (by omega) (by omega)
  · rw [x76, o76.2 q ⟨by omega, by omega⟩, if_neg (by omega)]
  · exact xo k (by omega) (by omega) (by omega) (by omega) (by omega) (by omega) (by omega) (by omega) (by omega) (by omega)
theorem ex_person {x k t b : Int} {V W Jm X : Nat → Nat → Int} {R Rm : Nat → Nat → Nat} (h : WR R V W) (hG : zEx W) (hm : f_m_person x k t W Jm Rm (b, X)) : zEx X := by
  have no : ∀ c : Int, rtn (c, W) (b, X) → zEx X := fun c h => by
    simp only [rtn, Prod.mk.injEq] at h
    rw [h.2]; exact hG
  unfold f_m_person at hm
  obtain ⟨y1, k1, -, hm⟩ := hm
  by_cases g1 : y1 = 0
  · rw [if_pos g1] at hm; exact no _ hm
  rw [if_neg g1] at hm
  have g1 := (q_mIn k1).on g1
  obtain ⟨y5, k5, -, hm⟩ := hm
  by_cases g5 : y5 = 0
  · rw [if_pos g5] at hm; exact no _ hm
  rw [if_neg g5] at hm
  have g5 := (q_mIn k5).on g5
  obtain ⟨y8, k8, -, hm⟩ := hm
  by_cases g8 : y8 = 0
  · rw [if_neg (fun hh => hh g8)] at hm; exact no _ hm
  rw [if_pos g8] at hm
  clear k1 k5 k8
  obtain ⟨n, rfl⟩ : ∃ n : Nat, x = (n : Int) := ⟨x.toNat, by omega⟩
  have hn : n < 8 := by omega
  obtain ⟨s, f1, hm⟩ := rdb_g hm
  obtain ⟨s2, f2, hm⟩ := rdb_g hm
  obtain ⟨s3, f3, hm⟩ := rdb_g hm
  obtain ⟨W1, f4, hm⟩ := rdb_g hm
  obtain ⟨W2, f5, hm⟩ := rdb_g hm
  obtain ⟨W3, f6, hm⟩ := rdb_g hm
  obtain ⟨W4, f7, hm⟩ := rdb_g hm
  simp only [rtn, Prod.mk.injEq] at hm
  obtain ⟨-, hX⟩ := hm
  have e52 : ((n : Int) + 52).toNat = 52 + n := by omega
  have e60 : ((n : Int) + 60).toNat = 60 + n := by omega
  have e68 : ((n : Int) + 68).toNat = 68 + n := by omega
  have xr : X 1 = up1 (up1 (up1 (up1 (W 1) 78 s3) (52 + n) k) (60 + n) t) (68 + n) 0 := by
    rw [hX, ← f7, up2_row, ← f6, up2_row, ← f5, up2_row, ← f4, up2_row, e52, e60, e68]
  have xo : ∀ k : Nat, k ≠ 52 + n → k ≠ 60 + n → k ≠ 68 + n → k ≠ 78 → X 1 k = W 1 k := fun k k1 k2 k3 k4 => by
    rw [xr, up1_of k3, up1_of k2, up1_of k1, up1_of k4]
  have x52 : X 1 (52 + n) = k := by rw [xr, up1_of (by omega), up1_of (by omega), up1_at]
  refine hG.land ⟨fun l hl hb => ?_, fun q hq => ?_⟩ (fun i hi => by rw [hX, ← f7, up2_c _ _ hi, ← f6, up2_c _ _ hi, ← f5, up2_c _ _ hi, ← f4, up2_c _ _ hi])
  · rw [xo 76 (by omega) (by omega) (by omega) (by decide)] at hb
    rw [xo l (by omega) (by omega) (by omega) (by omega), xo (4 + l) (by omega) (by omega) (by omega) (by omega), xo (8 + l) (by omega) (by omega) (by omega) (by omega), xo (12 + l) (by omega) (by omega) (by omega) (by omega), xo (16 + l) (by omega) (by omega) (by omega) (by omega)]
    exact hG.1.1 l hl hb
  · by_cases e : q = n
    · rw [e, x52]; exact g5
    · rw [xo (52 + q) (by omega) (by omega) (by omega) (by omega)]
      exact hG.1.2 q hq
theorem ex_card {x y b : Int} {V W Jm X : Nat → Nat → Int} {R Rm : Nat → Nat → Nat} (h : WR R V W) (hG : zEx W) (hm : f_m_card x y W Jm Rm (b, X)) : zEx X := by
  have no : ∀ c : Int, rtn (c, W) (b, X) → zEx X := fun c h => by
    simp only [rtn, Prod.mk.injEq] at h
    rw [h.2]; exact hG
  unfold f_m_card at hm
  obtain ⟨y1, k1, -, hm⟩ := hm
  by_cases g1 : y1 = 0
  · rw [if_pos g1] at hm; exact no _ hm
  rw [if_neg g1] at hm
  have q1 := (q_mPlant k1).on g1
  obtain ⟨z4, e4, hm⟩ := rdb_g hm
  have hm := jnk_if hm
  have up : ∀ v : Int, (rdb (up2 W 1 ((x + 20).toNat) v) fun V9 => rtn (1, V9)) (b, X) → zEx X := fun v hm => by
    obtain ⟨W9, f9, hm⟩ := rdb_g hm
    simp only [rtn, Prod.mk.injEq] at hm
    obtain ⟨-, hX⟩ := hm
    have xo : ∀ k : Nat, k ≠ (x + 20).toNat → X 1 k = W 1 k := fun k hk => by rw [hX, ← f9, up2_n _ _ (Or.inr hk)]
    exact hG.land (hG.1.cg (fun k k1 => xo k (by omega)) (fun k k1 k2 => xo k (by omega)) (xo 76 (by omega))) (fun i hi => by rw [hX, ← f9, up2_c _ _ hi])
  have two : ∀ w : Int, (if w = y then (if y = 0 then rdb (up2 W 1 ((x + 20).toNat) (-2)) fun V9 => rtn (1, V9) else rdb (up2 W 1 ((x + 20).toNat) (-3)) fun V10 => rtn (1, V10)) else rtn (0, W)) (b, X) → zEx X := fun w hm => by
    by_cases gw : w = y
    · rw [if_pos gw] at hm
      by_cases gy : y = 0
      · rw [if_pos gy] at hm; exact up _ hm
      · rw [if_neg gy] at hm; exact up _ hm
    · rw [if_neg gw] at hm; exact no _ hm
  exact two _ hm
theorem ex_pour {x y b : Int} {V W Jm X : Nat → Nat → Int} {R Rm : Nat → Nat → Nat} (h : WR R V W) (hG : zEx W) (hm : f_m_pour x y W Jm Rm (b, X)) : zEx X := by
  have no : ∀ c : Int, rtn (c, W) (b, X) → zEx X := fun c h => by
    simp only [rtn, Prod.mk.injEq] at h
    rw [h.2]; exact hG
  unfold f_m_pour at hm
  obtain ⟨y1, k1, -, hm⟩ := hm
  by_cases g1 : y1 = 0
  · rw [if_pos g1] at hm; exact no _ hm
  rw [if_neg g1] at hm
  have q1 := (q_mLives k1).on g1
  obtain ⟨_, -, -, hm⟩ := rdb_g hm
  obtain ⟨_, -, -, hm⟩ := rdb_g hm
  obtain ⟨y6, -, -, hm⟩ := hm
  by_cases g6 : ¬ y6 = 0
  · rw [if_pos g6] at hm
    obtain ⟨n, rfl⟩ : ∃ n : Nat, x = (n : Int) := ⟨x.toNat, by omega⟩
    obtain ⟨z9, e9, -, hm⟩ := rdb_g hm
    rw [Int.toNat_natCast] at e9
    obtain ⟨_, -, -, hm⟩ := rdb_g hm
    obtain ⟨w, kw, hm⟩ := hm
    have kw := q_min kw
    obtain ⟨W9, f9, hm⟩ := rdb_g hm
    simp only [rtn, Prod.mk.injEq] at hm
    obtain ⟨-, hX⟩ := hm
    rw [show ((n : Int) + 4).toNat = 4 + n by omega] at f9
    have xo : ∀ k : Nat, k ≠ 4 + n → X 1 k = W 1 k := fun k hk => by rw [hX, ← f9, up2_n _ _ (Or.inr hk)]
    have x4 : X 1 (4 + n) = w := by rw [hX, ← f9, up2_s]
    have o := hG.1.1 n (by omega) q1.1.2.2
    refine hG.land (hG.1.one (l := n) (fun q hq hqn => ⟨xo _ (by omega), xo _ (by omega), xo _ (by omega), xo _ (by omega), xo _ (by omega), by rw [xo 76 (by omega)]⟩) (fun k k1 k2 => xo k (by omega)) ?_) (fun i hi => by rw [hX, ← f9, up2_c _ _ hi])
    rw [xo n (by omega), x4, xo (8 + n) (by omega), xo (12 + n) (by omega), xo (16 + n) (by omega)]
    exact ⟨o.1, by omega, o.2.2⟩
  · rw [if_neg g6] at hm; exact no _ hm
theorem ex_seed {x b : Int} {W Jm X : Nat → Nat → Int} {Rm : Nat → Nat → Nat} (hG : zEx W) (hm : f_m_seed x W Jm Rm (b, X)) : zEx X := by
  unfold f_m_seed at hm
  obtain ⟨y1, -, -, hm⟩ := hm
  by_cases g1 : ¬ y1 = 0
  · rw [if_pos g1] at hm
    obtain ⟨W9, f9, hm⟩ := rdb_g hm
    simp only [rtn, Prod.mk.injEq] at hm
    obtain ⟨-, hX⟩ := hm
    have xo : ∀ k : Nat, k ≠ 80 → X 1 k = W 1 k := fun k hk => by rw [hX, ← f9, up2_n _ _ (Or.inr hk)]
    exact hG.land (hG.1.cg (fun k k1 => xo k (by omega)) (fun k k1 k2 => xo k (by omega)) (xo 76 (by omega))) (fun i hi => by rw [hX, ← f9, up2_c _ _ hi])
  · rw [if_neg g1] at hm
    simp only [rtn, Prod.mk.injEq] at hm
    rw [hm.2]; exact hG
theorem ex_undo {b : Int} {W Jm X : Nat → Nat → Int} {Rm : Nat → Nat → Nat} (hG : zEx W) (hm : f_m_undo W Jm Rm (b, X)) : zEx X := by
  unfold f_m_undo at hm
  obtain ⟨y1, f1, -, hm⟩ := rdb_g hm
  by_cases g1 : ¬ y1 = 0
  · rw [if_pos g1] at hm
    obtain ⟨W9, f9, hm⟩ := rdb_g hm
    simp only [rtn, Prod.mk.injEq] at hm
    obtain ⟨-, hX⟩ := hm
    have k := hG.2.resolve_left (by omega)
    have x1 : ∀ j : Nat, j < 81 → X 1 j = W 3 j := fun j hj => by rw [hX, ← f9, cpN_at hj]
    exact hG.land (k.cg (fun k k2 => x1 k (by omega)) (fun k _ k2 => x1 k (by omega)) (x1 76 (by decide))) (fun i hi => by rw [hX, ← f9, cpN_n hi])
  · rw [if_neg g1] at hm
    simp only [rtn, Prod.mk.injEq] at hm
    rw [hm.2]; exact hG
theorem ex_keep {W : Nat → Nat → Int} (hG : zEx W) : zEx (cpN (up2 W 0 53 1) 1 3 81) := by
  have x1 : cpN (up2 W 0 53 1) 1 3 81 1 = W 1 := by rw [cpN_n (by decide), up2_c _ _ (by decide)]
  have x3 : ∀ k : Nat, k < 81 → cpN (up2 W 0 53 1) 1 3 81 3 k = W 1 k := fun k hk => by rw [cpN_at hk, up2_c _ _ (by decide)]
  exact ⟨by rw [x1]; exact hG.1, Or.inr (hG.1.cg (fun k k2 => x3 k (by omega)) (fun k _ k2 => x3 k (by omega)) (x3 76 (by decide)))⟩
theorem ew_waters {p l : Nat} {V J X : Nat → Nat → Int} {R : Nat → Nat → Nat} (hp : p < 8) (hl : l < 4) (h76 : bt (V 1 76) l = 1) (hG : zEw (V 1)) (h : f_m_waters (p : Int) (l : Int) V J R X) : zEw (X 1) := by
  unfold f_m_waters at h
  obtain ⟨g, V1, -, F1, rg, h⟩ := h
  have v1 : V1 1 = V 1 := F1.rw 1 (by decide) (by decide)
  obtain ⟨_, -, -, h⟩ := rdb_g h
  obtain ⟨z3, e3, -, h⟩ := rdb_g h
  rw [Int.toNat_natCast, v1] at e3
  obtain ⟨w, kw, h⟩ := h
  have kw := q_min kw
  obtain ⟨V6, e6, h⟩ := rdb_g h
  obtain ⟨z7, e7, h⟩ := rdb_g h
  obtain ⟨z8, e8, h⟩ := rdb_g h
  obtain ⟨V9, e9, h⟩ := rdb_g h
  obtain ⟨_, -, h⟩ := rdb_g h
  obtain ⟨_, -, h⟩ := rdb_g h
  obtain ⟨V12, e12, h⟩ := rdb_g h
  obtain ⟨_, -, h⟩ := rdb_g h
  obtain ⟨_, -, h⟩ := rdb_g h
  obtain ⟨_, -, h⟩ := rdb_g h
  obtain ⟨V16, e16, h⟩ := rdb_g h
  obtain ⟨z17, e17, h⟩ := rdb_g h
  obtain ⟨z18, e18, h⟩ := rdb_g h
  obtain ⟨V19, e19, h⟩ := rdb_g h
  rw [show ((l : Int) + 4).toNat = 4 + l by omega] at e6
  rw [show ((p : Int) + 68).toNat = 68 + p by omega] at e7 e9
  have v61 : V6 1 = up1 (V 1) (4 + l) w := by rw [← e6, up2_row, v1]
  have r1 : V19 1 = up1 (up1 (V 1) (4 + l) w) (68 + p) z8 := by rw [← e19, up2_c _ _ (by decide), ← e16, up2_c _ _ (by decide), ← e12, up2_c _ _ (by decide), ← e9, up2_row, v61]
  have o := hG.1 l hl h76
  have fin : ∀ X2 : Nat → Nat → Int, (∀ k : Nat, k ≠ 20 + l → X2 1 k = V19 1 k) → zEw (X2 1) := fun X2 hX => by
    have n : ∀ k : Nat, k ≠ 4 + l → k ≠ 68 + p → k ≠ 20 + l → X2 1 k = V 1 k := fun k k1 k2 k3 => by rw [hX k k3, r1, up1_of k2, up1_of k1]
    have n4 : X2 1 (4 + l) = w := by rw [hX _ (by omega), r1, up1_of (by omega), up1_at]
    refine hG.one (l := l) (fun q hq hqn => ⟨n _ (by omega) (by omega) (by omega), n _ (by omega) (by omega) (by omega), n _ (by omega) (by omega) (by omega), n _ (by omega) (by omega) (by omega), n _ (by omega) (by omega) (by omega), by rw [n 76 (by omega) (by omega) (by omega)]⟩) (fun k k1 k2 => n k (by omega) (by omega) (by omega)) ?_
    rw [n l (by omega) (by omega) (by omega), n4, n (8 + l) (by omega) (by omega) (by omega), n (12 + l) (by omega) (by omega) (by omega), n (16 + l) (by omega) (by omega) (by omega)]
    exact ⟨o.1, by omega, o.2.2⟩
  by_cases g1 : g ≤ 0
  · rw [if_pos g1] at h
    have h : X = V19 := h
    rw [h]; exact fin V19 (fun _ _ => rfl)
  · rw [if_neg g1] at h
    obtain ⟨z21, -, h⟩ := rdb_g h
    by_cases g2 : z21 = (-2)
    · rw [if_pos g2] at h
      have h : X = V19 := h
      rw [h]; exact fin V19 (fun _ _ => rfl)
    · rw [if_neg g2] at h
      obtain ⟨_, -, h⟩ := rdb_g h
      obtain ⟨V24, e24, h⟩ := rdb_g h
      have h : X = V24 := h
      rw [h]
      exact fin V24 (fun k hk => by rw [← e24, up2_n _ _ (Or.inr (by omega))])
end
section
-- PLANTS stay as they can be: days; law and rule leave the lists alone (own work)
theorem ew_dries {l : Nat} {s : Int} {V J X : Nat → Nat → Int} {R : Nat → Nat → Nat} (hl : l < 4) (h76 : bt (V 1 76) l = 1) (hG : zEw (V 1)) (h : f_m_dries (l : Int) s V J R X) : zEw (X 1) ∧ ∀ k : Nat, 52 ≤ k → k ≠ 77 → X 1 k = V 1 k := by
  have k52 := k_dries hl h
  refine ⟨?_, k52⟩
  have o := hG.1 l hl h76
  unfold f_m_dries at h
  obtain ⟨z1, -, -, h⟩ := rdb_g h
  obtain ⟨z2, -, -, h⟩ := rdb_g h
  obtain ⟨V3, -, F3, h⟩ := h
  obtain ⟨z4, V4, -, F4, r4, h⟩ := h
  have e4 : V4 1 = V 1 := by rw [F4.rw 1 (by decide) (by decide), F3.rw 1 (by decide) (by decide)]
  have tail : ∀ (V9 V5 : Nat → Nat → Int) (w d r : Int), V5 1 = V 1 → w ≤ max 0 (V 1 (4 + l)) → up2 V5 1 ((l : Int) + 4).toNat w = V9 → dTail l w d r V9 X → zEw (X 1) := fun V9 V5 w d r e5 hw e9 ht => by
    obtain ⟨d2, r2, ed, er, -, ⟨t12, t16, -⟩, -, tof⟩ := q_dTail hl ht
    rw [show ((l : Int) + 4).toNat = 4 + l by omega] at e9
    have v9 : ∀ k : Nat, k ≠ 4 + l → V9 1 k = V 1 k := fun k hk => by rw [← e9, up2_n _ _ (Or.inr hk), e5]
    have v94 : V9 1 (4 + l) = w := by rw [← e9, up2_s]
    have t : ∀ k : Nat, k < 20 → k ≠ 12 + l → k ≠ 16 + l → X 1 k = V9 1 k := fun k k1 k2 k3 => tof k k2 k3 (by omega) (by omega)
    rw [v9 l (by omega)] at er
    have x76 : X 1 76 = V 1 76 := k52 76 (by decide) (by decide)
    refine hG.one (l := l) (fun q hq hqn => ⟨?_, ?_, ?_, ?_, ?_, by rw [x76]⟩) (fun k k1 k2 => k52 k (by omega) (by omega)) ?_
    · rw [t _ (by omega) (by omega) (by omega), v9 _ (by omega)]
    · rw [t _ (by omega) (by omega) (by omega), v9 _ (by omega)]
    · rw [t _ (by omega) (by omega) (by omega), v9 _ (by omega)]
    · rw [t _ (by omega) (by omega) (by omega), v9 _ (by omega)]
    · rw [t _ (by omega) (by omega) (by omega), v9 _ (by omega)]
    · rw [t l (by omega) (by omega) (by omega), v9 l (by omega), t (4 + l) (by omega) (by omega) (by omega), v94, t (8 + l) (by omega) (by omega) (by omega), v9 (8 + l) (by omega), t12, t16, ed, er]
      refine ⟨o.1, by omega, o.2.2.1, ?_⟩
      by_cases g : w = 0
      · rw [if_neg (c := w = V 1 l) (by omega)]; exact Or.inr rfl
      · rw [if_neg g]; exact Or.inl rfl
  by_cases g : s = 0
  · rw [if_pos g] at h
    obtain ⟨z6, e6, -, h⟩ := rdb_g h
    rw [e4, show ((l : Int) + 4).toNat = 4 + l by omega] at e6
    obtain ⟨w, kw, h⟩ := h
    have kw := q_max kw
    obtain ⟨V9, e9, h⟩ := rdb_g h
    exact tail _ _ _ _ _ e4 (by rw [e6]; omega) e9 h
  · rw [if_neg g] at h
    obtain ⟨z5, V5, -, F5, r5, h⟩ := h
    have e5 : V5 1 = V 1 := by rw [F5.rw 1 (by decide) (by decide), e4]
    obtain ⟨z6, e6, -, h⟩ := rdb_g h
    rw [e5, show ((l : Int) + 4).toNat = 4 + l by omega] at e6
    obtain ⟨w, kw, h⟩ := h
    have kw := q_max kw
    obtain ⟨V9, e9, h⟩ := rdb_g h
    exact tail _ _ _ _ _ e5 (by rw [e6]; omega) e9 h
theorem ew_day {V J X : Nat → Nat → Int} {R : Nat → Nat → Nat} (hG : zEw (V 1)) (h : f_m_dayGoes V J R X) : zEw (X 1) := by
  unfold f_m_dayGoes at h
  refine lop2_k (fun (z : Int) (V2 : Nat → Nat → Int) => 0 ≤ z ∧ zEw (V2 1)) (fun X : Nat → Nat → Int => zEw (X 1)) (fun rc hrc z V1 hV1 r h => ?_) _ _ _ ⟨by omega, hG⟩ _ h
  obtain ⟨hz, hV1⟩ := hV1
  by_cases g : 8 ≤ z
  · rw [if_pos g] at h
    refine lop2_k (fun (z : Int) (V2 : Nat → Nat → Int) => 0 ≤ z ∧ zEw (V2 1)) (fun X : Nat → Nat → Int => zEw (X 1)) (fun rc2 hrc2 z2 V2 hV2 r h => ?_) _ _ _ ⟨by omega, hV1⟩ _ h
    obtain ⟨hz2, hV2⟩ := hV2
    by_cases g2 : 4 ≤ z2
    · rw [if_pos g2] at h
      obtain ⟨t1, et1, h⟩ := rdb_g h
      obtain ⟨t2, et2, h⟩ := rdb_g h
      obtain ⟨V3, e3, h⟩ := rdb_g h
      have h : r = V3 := h
      rw [h]
      have n : ∀ k : Nat, k ≠ 79 → V3 1 k = V2 1 k := fun k hk => by rw [← e3, up2_n _ _ (Or.inr hk)]
      exact hV2.cg (fun k hk => n k (by omega)) (fun k k1 k2 => n k (by omega)) (n 76 (by decide))
    · rw [if_neg g2] at h
      obtain ⟨w, hw, -, h⟩ := h
      have hw := q_mLives hw
      have h := jnk_d h
      by_cases g3 : ¬ w = 0
      · rw [if_pos g3] at h
        have qw := hw.on g3
        obtain ⟨_, -, -, h⟩ := rdb_g h
        obtain ⟨_, -, -, h⟩ := rdb_g h
        obtain ⟨s, V4, h4, -, h⟩ := h
        have d4 := k_draws h4
        have h := jnk_if h
        obtain ⟨_, -, h⟩ := rdb_g h
        have h := jnk_if h
        obtain ⟨_, -, h⟩ := rdb_g h
        obtain ⟨V5, e5, h⟩ := rdb_g h
        obtain ⟨V6, h6, F6, h⟩ := h
        obtain ⟨l, rfl⟩ : ∃ l : Nat, z2 = (l : Int) := ⟨z2.toNat, by omega⟩
        have b5 : ∀ k : Nat, k ≠ 80 → V5 1 k = V2 1 k := fun k hk => by rw [← e5, up2_c _ _ (by decide), d4 _ _ (Or.inr hk)]
        have h5 : zEw (V5 1) := hV2.cg (fun k hk => b5 k (by omega)) (fun k k1 k2 => b5 k (by omega)) (b5 76 (by decide))
        obtain ⟨d6, -⟩ := ew_dries (by omega) (by rw [b5 76 (by decide)]; exact qw.1.2.2) h5 h6
        exact hrc2 _ _ ⟨by omega, d6⟩ _ h
      · rw [if_neg g3] at h
        exact hrc2 _ _ ⟨by omega, hV2⟩ _ h
  · rw [if_neg g] at h
    obtain ⟨w, hw, -, h⟩ := h
    have hw := q_mPerson hw
    have h := jnk_d h
    by_cases g3 : w = 0
    · rw [if_pos g3] at h
      exact hrc _ _ ⟨by omega, hV1⟩ _ h
    · rw [if_neg g3] at h
      obtain ⟨s, V4, h4, -, h⟩ := h
      have d4 := k_draws h4
      have n4 : ∀ k : Nat, k ≠ 80 → V4 1 k = V1 1 k := fun k hk => d4 _ _ (Or.inr hk)
      have hV4 : zEw (V4 1) := hV1.cg (fun k hk => n4 k (by omega)) (fun k k1 k2 => n4 k (by omega)) (n4 76 (by decide))
      obtain ⟨t, -, h⟩ := rdb_g h
      by_cases g4 : s < t
      · rw [if_pos g4] at h
        refine lop2_k (fun (z2 : Int) (V2 : Nat → Nat → Int) => 0 ≤ z2 ∧ zEw (V2 1)) (fun X : Nat → Nat → Int => zEw (X 1)) (fun rc2 hrc2 z2 V2 hV2 r h => ?_) _ _ _ ⟨by omega, hV4⟩ _ h
        obtain ⟨hz2, hV2⟩ := hV2
        by_cases g5 : 4 ≤ z2
        · rw [if_pos g5] at h
          exact hrc _ _ ⟨by omega, hV2⟩ _ h
        · rw [if_neg g5] at h
          obtain ⟨v, hv, -, h⟩ := h
          have hv := q_mLives hv
          have h := jnk_d h
          by_cases g6 : v = 0
          · rw [if_pos g6] at h
            exact hrc2 _ _ ⟨by omega, hV2⟩ _ h
          · rw [if_neg g6] at h
            have qv := hv.on g6
            obtain ⟨_, -, -, h⟩ := rdb_g h
            obtain ⟨_, -, -, h⟩ := rdb_g h
            obtain ⟨V7, h7, -, h9⟩ := h
            obtain ⟨p, rfl⟩ : ∃ p : Nat, z = (p : Int) := ⟨z.toNat, by omega⟩
            obtain ⟨l, rfl⟩ : ∃ l : Nat, z2 = (l : Int) := ⟨z2.toNat, by omega⟩
            exact hrc2 _ _ ⟨by omega, ew_waters (p := p) (l := l) (by omega) (by omega) qv.1.2.2 hV2 h7⟩ _ h9
      · rw [if_neg g4] at h
        exact hrc _ _ ⟨by omega, hV4⟩ _ h
set_option maxRecDepth 100000 in
theorem ew_days {x : Int} {W J X : Nat → Nat → Int} {R : Nat → Nat → Nat} (hG : zEw (W 1)) (h : f_m_daysGo x W J R X) : zEw (X 1) := by
  unfold f_m_daysGo at h
  obtain ⟨V1, e1, h⟩ := rdb_g h
  obtain ⟨V2, e2, h⟩ := rdb_g h
  obtain ⟨V3, e3, h⟩ := rdb_g h
  have v3 : V3 1 = W 1 := by rw [← e3, up2_c _ _ (by decide), ← e2, up2_c _ _ (by decide), ← e1, up2_c _ _ (by decide)]
  refine lop2_k (fun (z : Int) (V : Nat → Nat → Int) => V 1 = W 1) (fun X : Nat → Nat → Int => zEw (X 1)) (fun rc hrc z V hV r h => ?_) _ _ _ v3 _ h
  by_cases g : 8 ≤ z
  · rw [if_pos g] at h
    refine lop2_k (fun (z : Int) (V : Nat → Nat → Int) => zEw (V 1)) (fun X : Nat → Nat → Int => zEw (X 1)) (fun rc2 hrc2 z2 V2 hV2 r h => ?_) _ _ _ (by rw [hV]; exact hG) _ h
    by_cases g2 : x ≤ z2
    · rw [if_pos g2] at h
      have h : r = V2 := h
      rw [h]; exact hV2
    · rw [if_neg g2] at h
      obtain ⟨y, ey, h⟩ := rdb_g h
      by_cases g3 : 9999 ≤ y
      · rw [if_pos g3] at h
        have h : r = V2 := h
        rw [h]; exact hV2
      · rw [if_neg g3] at h
        obtain ⟨V5, h5, -, h⟩ := h
        exact hrc2 _ _ (ew_day hV2 h5) _ h
  · rw [if_neg g] at h
    obtain ⟨V5, e5, h⟩ := rdb_g h
    exact hrc _ _ (by rw [← e5, up2_c _ _ (by decide)]; exact hV) _ h
theorem ex_days {x b : Int} {V W Jm X : Nat → Nat → Int} {R Rm : Nat → Nat → Nat} (h : WR R V W) (hG : zEx W) (hm : f_m_days x W Jm Rm (b, X)) : zEx X := by
  unfold f_m_days at hm
  obtain ⟨y1, -, -, hm⟩ := hm
  by_cases g1 : ¬ y1 = 0
  · rw [if_pos g1] at hm
    obtain ⟨Y, hY, hF, hm⟩ := hm
    obtain ⟨_, -, hm⟩ := rdb_g hm
    simp only [rtn, Prod.mk.injEq] at hm
    obtain ⟨-, hX⟩ := hm
    rw [hX]
    refine ⟨ew_days hG.1 hY, ?_⟩
    rw [hF.fl 53 (by decide), hF.rw 3 (by decide) (by decide)]
    exact hG.2
  · rw [if_neg g1] at hm
    simp only [rtn, Prod.mk.injEq] at hm
    rw [hm.2]; exact hG
/-- law and rule: the lists' places stay -/
theorem r98_law {x a : Int} {V V2 J J2 : Nat → Nat → Int} {R R2 : Nat → Nat → Nat} (hx : f_s_law x V J R (a, (V2, J2, R2))) : R2 98 = R 98 := by
  have no : ∀ c : Int, rtn (c, (V, J, R)) (a, (V2, J2, R2)) → R2 98 = R 98 := fun c hx => by
    simp only [rtn, Prod.mk.injEq] at hx
    rw [hx.2.2.2]
  unfold f_s_law at hx
  obtain ⟨z1, h1, -, hx⟩ := hx
  by_cases g1 : z1 = 0
  · rw [if_pos g1] at hx; exact no _ hx
  rw [if_neg g1] at hx
  obtain ⟨z4, e4, -, hx⟩ := rdb_g hx
  by_cases g3 : x ≤ z4
  · rw [if_pos g3] at hx
    obtain ⟨z6, V6, J6, R6, h6, -, hx⟩ := hx
    obtain ⟨V7, -, hx⟩ := rdb_g hx
    simp only [rtn, Prod.mk.injEq] at hx
    rw [hx.2.2.2]
    unfold f_b_writeLaw at h6
    obtain ⟨z8, V8, h8, -, h6⟩ := h6
    by_cases g4 : z8 ≤ 0
    · rw [if_pos g4] at h6
      simp only [rtn, Prod.mk.injEq] at h6
      rw [h6.2.2.2]
    · rw [if_neg g4] at h6
      obtain ⟨t3, et3, h6⟩ := rdb_g h6
      obtain ⟨z9, V9, J9, R9, h9, -, h6⟩ := h6
      obtain ⟨R10, e10, h6⟩ := rdb_g h6
      simp only [rtn, Prod.mk.injEq] at h6
      rw [h6.2.2.2, ← e10, up2_c _ _ (by decide)]
      unfold f_r_swap at h9
      obtain ⟨t1, et1, h9⟩ := rdb_g h9
      obtain ⟨R11, e11, h9⟩ := rdb_g h9
      simp only [rtn, Prod.mk.injEq] at h9
      rw [h9.2.2.2, ← e11, up2_c _ _ (by decide)]
  · rw [if_neg g3] at hx; exact no _ hx
theorem r98_rule {c x a : Int} {V V2 J J2 : Nat → Nat → Int} {R R2 : Nat → Nat → Nat} (hx : f_s_rule c x V J R (a, (V2, J2, R2))) : R2 98 = R 98 := by
  have no : ∀ c : Int, rtn (c, (V, J, R)) (a, (V2, J2, R2)) → R2 98 = R 98 := fun c hx => by
    simp only [rtn, Prod.mk.injEq] at hx
    rw [hx.2.2.2]
  unfold f_s_rule at hx
  obtain ⟨z0, h0, -, hx⟩ := hx
  by_cases g0 : z0 = 0
  · rw [if_pos g0] at hx; exact no _ hx
  rw [if_neg g0] at hx
  obtain ⟨z1, h1, -, hx⟩ := hx
  by_cases g1 : z1 = 0
  · rw [if_pos g1] at hx; exact no _ hx
  rw [if_neg g1] at hx
  obtain ⟨z4, e4, -, hx⟩ := rdb_g hx
  by_cases g3 : x ≤ z4
  · rw [if_pos g3] at hx
    obtain ⟨z6, V6, J6, R6, h6, -, hx⟩ := hx
    obtain ⟨V7, -, hx⟩ := rdb_g hx
    simp only [rtn, Prod.mk.injEq] at hx
    rw [hx.2.2.2]
    unfold f_b_writeRule at h6
    obtain ⟨z8, V8, h8, -, h6⟩ := h6
    by_cases g4 : z8 ≤ 0
    · rw [if_pos g4] at h6
      simp only [rtn, Prod.mk.injEq] at h6
      rw [h6.2.2.2]
    · rw [if_neg g4] at h6
      obtain ⟨t3, et3, h6⟩ := rdb_g h6
      obtain ⟨z9, V9, J9, R9, h9, -, h6⟩ := h6
      obtain ⟨R10, e10, h6⟩ := rdb_g h6
      simp only [rtn, Prod.mk.injEq] at h6
      rw [h6.2.2.2, ← e10, up2_c _ _ (by decide)]
      unfold f_r_swap at h9
      obtain ⟨t1, et1, h9⟩ := rdb_g h9
      obtain ⟨R11, e11, h9⟩ := rdb_g h9
      simp only [rtn, Prod.mk.injEq] at h9
      rw [h9.2.2.2, ← e11, up2_c _ _ (by decide)]
  · rw [if_neg g3] at hx; exact no _ hx
end
