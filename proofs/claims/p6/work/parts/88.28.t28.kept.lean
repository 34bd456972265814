-- kept and undone; the tape (own work)
theorem cpV_at {V : Nat → Nat → Int} {i j n k : Nat} (h : k < n) : cpV V i 0 j 0 n j k = V i k := by
  unfold cpV
  rw [if_pos ⟨rfl, by omega, by omega⟩, Nat.zero_add, Nat.sub_zero]
theorem cpV_o {V : Nat → Nat → Int} {i j n q : Nat} (h : q ≠ j) : cpV V i 0 j 0 n q = V q := by
  funext k
  unfold cpV
  rw [if_neg (fun hh => h hh.1)]
/-- a landing's cells -/
def SL (d s : Nat) (U V : Nat → Nat → Int) : Prop := (∀ l : Nat, l < 4 → (∀ j : Nat, j < 8 → U (d + 3 + 2 * l) j = V (s + 3 + 2 * l) j) ∧ ∀ j : Nat, j < 7 → U (d + 3 + 2 * l + 1) j = V (s + 3 + 2 * l + 1) j) ∧ (∀ p : Nat, p < 8 → ∀ j : Nat, j < 4 → U (d + 11 + p) j = V (s + 11 + p) j) ∧ ∀ j : Nat, 2 ≤ j → j < 5 → U d j = V s j
theorem RLz.copy {d s : Nat} {U V : Nat → Nat → Int} {N M : Nat → Int} (h : RLz s V N) (hc : SL d s U V) (hN : ∀ k : Nat, k < 81 → M k = N k) : RLz d U M := by
  obtain ⟨a1, a2, a3, a4, a5, a6, a7, a8, a9, a10⟩ := h
  obtain ⟨c1, c2, c3⟩ := hc
  refine ⟨fun l hl => ((a1 l hl).cl (c1 l hl).1 (c1 l hl).2).cg rfl rfl (fun j hj => hN j (by omega)) (by rw [hN 76 (by decide)]) (by rw [hN 77 (by decide)]), fun p hp => ?_, by rw [c3 2 (by decide) (by decide), hN 78 (by decide)]; exact a3, by rw [c3 3 (by decide) (by decide), hN 79 (by decide)]; exact a4, by rw [c3 4 (by decide) (by decide), hN 80 (by decide)]; exact a5, by rw [hN 76 (by decide)]; exact a6, by rw [hN 77 (by decide)]; exact a7, by rw [hN 78 (by decide)]; exact a8, by rw [hN 79 (by decide)]; exact a9, by rw [hN 80 (by decide)]; exact a10⟩
  have k := a2 p hp
  unfold RPe at k ⊢
  rw [c2 p hp 0 (by decide), c2 p hp 1 (by decide), c2 p hp 2 (by decide), c2 p hp 3 (by decide), hN 78 (by decide), hN (52 + p) (by omega), hN (60 + p) (by omega), hN (68 + p) (by omega)]
  exact k
theorem q_copyE {c s : Nat} {V J U : Nat → Nat → Int} {R : Nat → Nat → Nat} (hne : s ≠ c) (h : f_s_copyE c s V J R U) : (∀ i : Nat, i ≠ c → U i = V i) ∧ ∀ j : Nat, j < 4 → U c j = V s j := by
  unfold f_s_copyE at h
  obtain ⟨z0, a0, -, h⟩ := rdb_g h
  obtain ⟨V2, e2, h⟩ := rdb_g h
  obtain ⟨z1, a1, h⟩ := rdb_g h
  obtain ⟨V4, e4, h⟩ := rdb_g h
  obtain ⟨z2, a2, -, h⟩ := rdb_g h
  obtain ⟨V6, e6, h⟩ := rdb_g h
  obtain ⟨z3, a3, h⟩ := rdb_g h
  obtain ⟨V8, e8, h⟩ := rdb_g h
  have h : U = V8 := h
  subst h
  rw [← e2, up2_c _ _ hne] at a1
  rw [← e4, up2_c _ _ hne, ← e2, up2_c _ _ hne] at a2
  rw [← e6, up2_c _ _ hne, ← e4, up2_c _ _ hne, ← e2, up2_c _ _ hne] at a3
  have uc : U c = up1 (up1 (up1 (up1 (V c) 0 z0) 1 z1) 2 z2) 3 z3 := by rw [← e8, up2_row, ← e6, up2_row, ← e4, up2_row, ← e2, up2_row]
  refine ⟨fun i hi => by rw [← e8, up2_c _ _ hi, ← e6, up2_c _ _ hi, ← e4, up2_c _ _ hi, ← e2, up2_c _ _ hi], fun j hj => ?_⟩
  rw [uc]
  rcases (show j = 0 ∨ j = 1 ∨ j = 2 ∨ j = 3 by omega) with rfl | rfl | rfl | rfl
  · exact a0.symm
  · exact a1.symm
  · exact a2.symm
  · exact a3.symm
theorem q_copyP {c s : Nat} {V J U : Nat → Nat → Int} {R : Nat → Nat → Nat} (hne : s ≠ c ∧ s + 1 ≠ c) (h : f_s_copyPu c s V J R U) : (∀ i : Nat, i ≠ c → i ≠ c + 1 → U i = V i) ∧ (∀ j : Nat, j < 8 → U c j = V s j) ∧ ∀ j : Nat, j < 7 → U (c + 1) j = V (s + 1) j := by
  obtain ⟨hn, hn1⟩ := hne
  unfold f_s_copyPu at h
  obtain ⟨z0, a0, -, h⟩ := rdb_g h
  obtain ⟨V0, e0, h⟩ := rdb_g h
  obtain ⟨z1, a1, h⟩ := rdb_g h
  obtain ⟨V1, e1, h⟩ := rdb_g h
  obtain ⟨z2, a2, h⟩ := rdb_g h
  obtain ⟨V2, e2, h⟩ := rdb_g h
  obtain ⟨z3, a3, h⟩ := rdb_g h
  obtain ⟨V3, e3, h⟩ := rdb_g h
  obtain ⟨z4, a4, h⟩ := rdb_g h
  obtain ⟨V4, e4, h⟩ := rdb_g h
  obtain ⟨z5, a5, h⟩ := rdb_g h
  obtain ⟨V5, e5, h⟩ := rdb_g h
  obtain ⟨z6, a6, -, h⟩ := rdb_g h
  obtain ⟨V6, e6, h⟩ := rdb_g h
  obtain ⟨z7, a7, h⟩ := rdb_g h
  obtain ⟨V7, e7, h⟩ := rdb_g h
  obtain ⟨V8, e8, h⟩ := rdb_g h
  have h : U = V8 := h
  subst h
  have o0 : ∀ i : Nat, i ≠ c → V0 i = V i := fun i hi => by rw [← e0, up2_c _ _ hi]
  have o1 : ∀ i : Nat, i ≠ c → V1 i = V i := fun i hi => by rw [← e1, up2_c _ _ hi, o0 i hi]
  have o2 : ∀ i : Nat, i ≠ c → V2 i = V i := fun i hi => by rw [← e2, up2_c _ _ hi, o1 i hi]
  have o3 : ∀ i : Nat, i ≠ c → V3 i = V i := fun i hi => by rw [← e3, up2_c _ _ hi, o2 i hi]
  have o4 : ∀ i : Nat, i ≠ c → V4 i = V i := fun i hi => by rw [← e4, up2_c _ _ hi, o3 i hi]
  have o5 : ∀ i : Nat, i ≠ c → V5 i = V i := fun i hi => by rw [← e5, up2_c _ _ hi, o4 i hi]
  have o6 : ∀ i : Nat, i ≠ c → V6 i = V i := fun i hi => by rw [← e6, up2_c _ _ hi, o5 i hi]
  have o7 : ∀ i : Nat, i ≠ c → V7 i = V i := fun i hi => by rw [← e7, up2_c _ _ hi, o6 i hi]
  rw [o0 s hn] at a1
  rw [o1 s hn] at a2
  rw [o2 s hn] at a3
  rw [o3 s hn] at a4
  rw [o4 s hn] at a5
  rw [o5 s hn] at a6
  rw [o6 s hn] at a7
  have uc : U c = up1 (up1 (up1 (up1 (up1 (up1 (up1 (up1 (V c) 0 z0) 1 z1) 2 z2) 3 z3) 4 z4) 5 z5) 6 z6) 7 z7 := by
    rw [← e8, cpV_o (by omega), ← e7, up2_row, ← e6, up2_row, ← e5, up2_row, ← e4, up2_row, ← e3, up2_row, ← e2, up2_row, ← e1, up2_row, ← e0, up2_row]
  refine ⟨fun i hi h2 => by rw [← e8, cpV_o h2, o7 i hi], fun j hj => ?_, fun j hj => by rw [← e8, cpV_at hj, o7 (s + 1) hn1]⟩
  rw [uc]
  rcases (show j = 0 ∨ j = 1 ∨ j = 2 ∨ j = 3 ∨ j = 4 ∨ j = 5 ∨ j = 6 ∨ j = 7 by omega) with rfl | rfl | rfl | rfl | rfl | rfl | rfl | rfl
  · exact a0.symm
  · exact a1.symm
  · exact a2.symm
  · exact a3.symm
  · exact a4.symm
  · exact a5.symm
  · exact a6.symm
  · exact a7.symm
theorem q_copy {d s : Nat} {V J U : Nat → Nat → Int} {Rr : Nat → Nat → Nat} (hds : d + 18 < s ∨ s + 18 < d)
    (h : lop2 (6) (fun rc161 (z160 : Int) (V161 : Nat → Nat → Int) => (if 4 ≤ z160 then lop2 (10) (fun rc288 (z287 : Int) (V288 : Nat → Nat → Int) => (if 8 ≤ z287 then rdb (V288 s 2) fun z306 => rdb (up2 V288 d 2 z306) fun V307 => rdb (V307 s 3) fun z308 => rdb (up2 V307 d 3 z308) fun V309 => rdb (V309 s 4) fun z310 => rdb (up2 V309 d 4 z310) fun V311 => rtn V311 else rdb (d + 11 + 1 * z287.toNat) fun c312 => rdb (s + 11 + 1 * z287.toNat) fun c313 => calUX (fun i k : Nat => (c312 ≤ i ∧ i ≤ c312)) V288 (f_s_copyE c312 c313 V288 J Rr) fun V314 => rc288 (z287 + 1) V314)) 0 V161 else rdb (d + 3 + 2 * z160.toNat) fun c315 => rdb (s + 3 + 2 * z160.toNat) fun c316 => calUX (fun i k : Nat => (c315 ≤ i ∧ i ≤ c315 + 1)) V161 (f_s_copyPu c315 c316 V161 J Rr) fun V317 => rc161 (z160 + 1) V317)) 0 V U) :
    SL d s U V ∧ ∀ i : Nat, ¬ (d ≤ i ∧ i ≤ d + 18) → U i = V i := by
  obtain ⟨b, hb, h⟩ := lop2_g h
  have inner : ∀ (n p : Nat) (W : Nat → Nat → Int) (b2 : (Int → (Nat → Nat → Int) → (Nat → Nat → Int) → Prop) → Int → (Nat → Nat → Int) → (Nat → Nat → Int) → Prop), b2 = (fun rc288 (z287 : Int) (V288 : Nat → Nat → Int) => (if 8 ≤ z287 then rdb (V288 s 2) fun z306 => rdb (up2 V288 d 2 z306) fun V307 => rdb (V307 s 3) fun z308 => rdb (up2 V307 d 3 z308) fun V309 => rdb (V309 s 4) fun z310 => rdb (up2 V309 d 4 z310) fun V311 => rtn V311 else rdb (d + 11 + 1 * z287.toNat) fun c312 => rdb (s + 11 + 1 * z287.toNat) fun c313 => calUX (fun i k : Nat => (c312 ≤ i ∧ i ≤ c312)) V288 (f_s_copyE c312 c313 V288 J Rr) fun V314 => rc288 (z287 + 1) V314)) →
      (∀ l : Nat, l < 4 → (∀ j : Nat, j < 8 → W (d + 3 + 2 * l) j = V (s + 3 + 2 * l) j) ∧ ∀ j : Nat, j < 7 → W (d + 3 + 2 * l + 1) j = V (s + 3 + 2 * l + 1) j) → (∀ q : Nat, q < p → q < 8 → ∀ j : Nat, j < 4 → W (d + 11 + q) j = V (s + 11 + q) j) → (∀ i : Nat, ¬ (d ≤ i ∧ i ≤ d + 18) → W i = V i) → lop2 n b2 (p : Int) W U → SL d s U V ∧ ∀ i : Nat, ¬ (d ≤ i ∧ i ≤ d + 18) → U i = V i := by
    intro n
    induction n with
    | zero => intro p W b2 _ _ _ _ h; exact False.elim h
    | succ n ih =>
      intro p W b2 hb2 h1 h2 h3 h
      rw [lop2_s hb2] at h
      by_cases g : (8 : Int) ≤ p
      · rw [if_pos g] at h
        obtain ⟨z2, a2, h⟩ := rdb_g h
        obtain ⟨V2, e2, h⟩ := rdb_g h
        obtain ⟨z3, a3, h⟩ := rdb_g h
        obtain ⟨V3, e3, h⟩ := rdb_g h
        obtain ⟨z4, a4, h⟩ := rdb_g h
        obtain ⟨V4, e4, h⟩ := rdb_g h
        have h : U = V4 := h
        subst h
        have ns : s ≠ d := by omega
        rw [h3 s (by omega)] at a2
        rw [← e2, up2_c _ _ ns, h3 s (by omega)] at a3
        rw [← e3, up2_c _ _ ns, ← e2, up2_c _ _ ns, h3 s (by omega)] at a4
        have uo : ∀ i : Nat, i ≠ d → U i = W i := fun i hi => by rw [← e4, up2_c _ _ hi, ← e3, up2_c _ _ hi, ← e2, up2_c _ _ hi]
        have ud : U d = up1 (up1 (up1 (W d) 2 z2) 3 z3) 4 z4 := by rw [← e4, up2_row, ← e3, up2_row, ← e2, up2_row]
        refine ⟨⟨fun l hl => ⟨fun j hj => by rw [uo _ (by omega)]; exact (h1 l hl).1 j hj, fun j hj => by rw [uo _ (by omega)]; exact (h1 l hl).2 j hj⟩, fun q hq j hj => by rw [uo _ (by omega)]; exact h2 q (by omega) hq j hj, fun j j1 j2 => ?_⟩, fun i hi => by rw [uo i (by omega)]; exact h3 i hi⟩
        rw [ud]
        rcases (show j = 2 ∨ j = 3 ∨ j = 4 by omega) with rfl | rfl | rfl
        · exact a2.symm
        · exact a3.symm
        · exact a4.symm
      · rw [if_neg g] at h
        obtain ⟨c, ec, h⟩ := rdb_g h
        obtain ⟨t, et, h⟩ := rdb_g h
        obtain ⟨W2, hW, -, hq0⟩ := h
        rw [Int.toNat_natCast, Nat.one_mul] at ec et
        subst ec et
        obtain ⟨o1, o2⟩ := q_copyE (by omega) hW
        refine ih (p + 1) W2 b2 hb2 (fun l hl => ⟨fun j hj => by rw [o1 _ (by omega)]; exact (h1 l hl).1 j hj, fun j hj => by rw [o1 _ (by omega)]; exact (h1 l hl).2 j hj⟩) (fun q hq hq8 j hj => ?_) (fun i hi => by rw [o1 i (by omega)]; exact h3 i hi) (by rw [Int.natCast_add]; exact hq0)
        by_cases e : q = p
        · subst e
          rw [o2 j hj, h3 _ (by omega)]
        · rw [o1 _ (by omega)]
          exact h2 q (by omega) hq8 j hj
  have outer : ∀ (n l : Nat) (W : Nat → Nat → Int), (∀ q : Nat, q < l → q < 4 → (∀ j : Nat, j < 8 → W (d + 3 + 2 * q) j = V (s + 3 + 2 * q) j) ∧ ∀ j : Nat, j < 7 → W (d + 3 + 2 * q + 1) j = V (s + 3 + 2 * q + 1) j) → (∀ i : Nat, ¬ (d ≤ i ∧ i ≤ d + 18) → W i = V i) → lop2 n b (l : Int) W U → SL d s U V ∧ ∀ i : Nat, ¬ (d ≤ i ∧ i ≤ d + 18) → U i = V i := by
    intro n
    induction n with
    | zero => intro p W _ _ h; exact False.elim h
    | succ n ih =>
      intro p W h1 h3 h
      rw [lop2_s hb] at h
      by_cases g : (4 : Int) ≤ p
      · rw [if_pos g] at h
        exact inner 10 0 W _ rfl (fun l hl => h1 l (by omega) hl) (fun q hq => absurd hq (by omega)) h3 h
      · rw [if_neg g] at h
        obtain ⟨c, ec, h⟩ := rdb_g h
        obtain ⟨t, et, h⟩ := rdb_g h
        obtain ⟨W2, hW, -, hq0⟩ := h
        rw [Int.toNat_natCast] at ec et
        subst ec et
        obtain ⟨o1, o2, o3⟩ := q_copyP ⟨by omega, by omega⟩ hW
        refine ih (p + 1) W2 (fun q hq hq4 => ?_) (fun i hi => by rw [o1 i (by omega) (by omega)]; exact h3 i hi) (by rw [Int.natCast_add]; exact hq0)
        by_cases e : q = p
        · subst e
          exact ⟨fun j hj => by rw [o2 j hj, h3 _ (by omega)], fun j hj => by rw [o3 j hj, h3 _ (by omega)]⟩
        · exact ⟨fun j hj => by rw [o1 _ (by omega) (by omega)]; exact (h1 q (by omega) hq4).1 j hj, fun j hj => by rw [o1 _ (by omega) (by omega)]; exact (h1 q (by omega) hq4).2 j hj⟩
  exact outer 6 0 V (fun q hq => absurd hq (by omega)) (fun _ _ => rfl) h
theorem w_undo {a b : Int} {V V2 J W Jm X : Nat → Nat → Int} {R Rm : Nat → Nat → Nat} (h : WR R V W) (hx : f_s_undo V J R (a, V2)) (hm : f_m_undo W Jm Rm (b, X)) : a = b ∧ WR R V2 X := by
  unfold f_s_undo at hx
  unfold f_m_undo at hm
  obtain ⟨z1, e1, -, hx⟩ := rdb_g hx
  obtain ⟨y1, f1, -, hm⟩ := rdb_g hm
  have e : z1 = y1 := by rw [← e1, ← f1]; exact h.2.1
  subst e
  by_cases g1 : z1 = 0
  · rw [if_neg (fun hh => hh g1)] at hx hm
    exact h.same hx hm
  rw [if_pos g1] at hx hm
  obtain ⟨U, hU, -, hx⟩ := hx
  simp only [rdb, rtn, Prod.mk.injEq] at hx hm
  obtain ⟨rfl, rfl⟩ := hx
  obtain ⟨rfl, rfl⟩ := hm
  refine ⟨rfl, ?_⟩
  obtain ⟨u1, u2⟩ := q_copy (d := 1) (s := 20) (by omega) hU
  obtain ⟨k1, k2⟩ := h.2.2.1.resolve_left (by omega)
  have e3 : ∀ k : Nat, k < 81 → cpN W 3 1 81 1 k = W 3 k := fun k hk => cpN_at hk
  exact h.land1 ⟨k1.copy u1 e3, by rw [e3 79 (by decide)]; exact k2⟩ (fun i hi => u2 i (by omega)) (fun i hi => cpN_n hi)
theorem w_keep {a b : Int} {V V2 J W Jm X : Nat → Nat → Int} {R Rm : Nat → Nat → Nat} (h : WR R V W) (hx : f_s_keep V J R (a, V2)) (hm : f_m_keep W Jm Rm (b, X)) : WR R V2 X ∧ V2 = up2 V2 0 3 1 ∧ SL 20 1 V2 V ∧ (∀ i : Nat, i ≠ 0 → ¬ (20 ≤ i ∧ i ≤ 38) → V2 i = V i) ∧ X = cpN (up2 W 0 53 1) 1 3 81 ∧ (∃ bX, bX = (fun rc35 (z32 : Int) (z33 : Int) => (if 4 ≤ z32 then rtn (z33, V2) else rdb (1 + 3 + 2 * z32.toNat) fun c41 => rdb (V2 c41 2) fun z42 => rdb (wr (z33 + z42)) fun z43 => rc35 (z32 + 1) z43)) ∧ lop2 6 bX 0 0 (a, V2)) := by
  unfold f_s_keep at hx
  unfold f_m_keep at hm
  obtain ⟨U, hU, -, hx⟩ := hx
  obtain ⟨V3, e3, hx⟩ := rdb_g hx
  obtain ⟨W1, f1, hm⟩ := rdb_g hm
  obtain ⟨W2, f2, hm⟩ := rdb_g hm
  obtain ⟨u1, u2⟩ := q_copy (d := 20) (s := 1) (by omega) hU
  obtain ⟨bX, hbX, hx9⟩ := lop2_g hx
  obtain ⟨bM, hbM, hm9⟩ := lop2_g hm
  have kx : ∀ (n : Nat) (l s : Int), lop2 n bX l s (a, V2) → V2 = V3 := by
    intro n
    induction n with
    | zero => intro l s h; exact False.elim h
    | succ n ih =>
      intro l s h
      rw [lop2_s hbX] at h
      by_cases g : 4 ≤ l
      · rw [if_pos g] at h
        simp only [rtn, Prod.mk.injEq] at h
        exact h.2
      · rw [if_neg g] at h
        exact ih _ _ h
  have km : ∀ (n : Nat) (l s : Int), lop2 n bM l s (b, X) → X = W2 := by
    intro n
    induction n with
    | zero => intro l s h; exact False.elim h
    | succ n ih =>
      intro l s h
      rw [lop2_s hbM] at h
      by_cases g : 4 ≤ l
      · rw [if_pos g] at h
        simp only [rtn, Prod.mk.injEq] at h
        exact h.2
      · rw [if_neg g] at h
        obtain ⟨z, -, -, h⟩ := h
        have h := jnk_d h
        by_cases g2 : z = 0
        · rw [if_pos g2] at h
          exact ih _ _ h
        · rw [if_neg g2] at h
          obtain ⟨y, -, -, h⟩ := rdb_g h
          exact ih _ _ h
  have ev := kx _ _ _ hx9
  have em := km _ _ _ hm9
  subst ev em
  subst e3 f2 f1
  have vo : ∀ i : Nat, i ≠ 0 → up2 U 0 3 1 i = U i := fun i hi => up2_c _ _ hi
  have s1 : SL 20 1 (up2 U 0 3 1) V := ⟨fun l hl => ⟨fun j hj => by rw [vo _ (by omega)]; exact (u1.1 l hl).1 j hj, fun j hj => by rw [vo _ (by omega)]; exact (u1.1 l hl).2 j hj⟩, fun q hq j hj => by rw [vo _ (by omega)]; exact u1.2.1 q hq j hj, fun j j1 j2 => by rw [vo _ (by omega)]; exact u1.2.2 j j1 j2⟩
  have vo2 : ∀ i : Nat, i ≠ 0 → ¬ (20 ≤ i ∧ i ≤ 38) → up2 U 0 3 1 i = V i := fun i hi h2 => by rw [vo i hi]; exact u2 i (by omega)
  have x1 : cpN (up2 W 0 53 1) 1 3 81 1 = W 1 := by rw [cpN_n (by decide), up2_c _ _ (by decide)]
  have x3 : ∀ k : Nat, k < 81 → cpN (up2 W 0 53 1) 1 3 81 3 k = W 1 k := fun k hk => by rw [cpN_at hk, up2_c _ _ (by decide)]
  have xo : ∀ i : Nat, i ≠ 0 → i ≠ 3 → cpN (up2 W 0 53 1) 1 3 81 i = W i := fun i hi h3 => by rw [cpN_n h3, up2_c _ _ hi]
  have x04 : cpN (up2 W 0 53 1) 1 3 81 0 4 = W 0 4 := by rw [cpN_n (by decide), up2_n _ _ (Or.inr (by decide))]
  refine ⟨?_, ?_, s1, vo2, rfl, bX, hbX, hx9⟩
  · obtain ⟨⟨a1, a2⟩, a3, a4, ⟨a5, a6⟩, a7⟩ := h
    refine ⟨⟨a1.cg2 (fun i i1 i2 => vo2 i (by omega) (by omega)) (fun k hk => by rw [x1]), by rw [x1]; exact a2⟩, ?_, Or.inr ⟨a1.copy s1 x3, by rw [x3 79 (by decide)]; exact a2⟩, ⟨a5.cg (fun i i1 i2 i3 => vo2 i (by omega) (by omega)) (fun i i1 i2 => xo i (by omega) (by omega)), a6⟩, a7.cg (by rw [vo2 58 (by decide) (by decide)]) (vo2 59 (by decide) (by decide)) x04 (xo 4 (by decide) (by decide))⟩
    rw [up2_s, cpN_n (by decide), up2_s]
  · exact (up2_same (up2_s _ _ _ _)).symm
