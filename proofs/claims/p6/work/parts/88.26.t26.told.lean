-- what is told and changed on the landing (own work)
theorem WR.land {R : Nat → Nat → Nat} {V W U X : Nat → Nat → Int} (h : WR R V W) (hR : RLz 1 U (X 1) ∧ X 1 79 ≤ 9999) (hx : ∀ i : Nat, (20 ≤ i ∧ i ≤ 38) ∨ (58 ≤ i ∧ i ≤ 59) ∨ (61 ≤ i ∧ i ≤ 65) ∨ (73 ≤ i ∧ i ≤ 97) → U i = V i) (h0 : U 0 3 = V 0 3) (m3 : X 3 = W 3) (m4 : X 4 = W 4) (mt : ∀ i : Nat, 11 ≤ i → i ≤ 16 → X i = W i) (m04 : X 0 4 = W 0 4) (m053 : X 0 53 = W 0 53) : WR R U X := by
  obtain ⟨-, a3, a4, ⟨a5, a6⟩, a7⟩ := h
  refine ⟨hR, by rw [h0, m053]; exact a3, ?_, ⟨a5.cg (fun i i1 i2 i3 => hx i (by omega)) mt, a6⟩, a7.cg (by rw [hx 58 (by decide)]) (hx 59 (by decide)) m04 m4⟩
  rw [h0, m3]
  rcases a4 with a4 | ⟨a4, a8⟩
  · exact Or.inl a4
  · exact Or.inr ⟨a4.cg2 (fun i i1 i2 => hx i (by omega)) (fun _ _ => rfl), a8⟩
theorem WR.land1 {R : Nat → Nat → Nat} {V W U X : Nat → Nat → Int} (h : WR R V W) (hR : RLz 1 U (X 1) ∧ X 1 79 ≤ 9999) (hx : ∀ i : Nat, i = 0 ∨ 20 ≤ i → U i = V i) (hm : ∀ i : Nat, i ≠ 1 → X i = W i) : WR R U X :=
  h.land hR (fun i hi => hx i (by omega)) (by rw [hx 0 (Or.inl rfl)]) (hm 3 (by decide)) (hm 4 (by decide)) (fun i i1 i2 => hm i (by omega)) (by rw [hm 0 (by decide)]) (by rw [hm 0 (by decide)])
theorem WR.same {R : Nat → Nat → Nat} {V W U X : Nat → Nat → Int} {c a b : Int} (h : WR R V W) (hx : rtn (c, V) (a, U)) (hm : rtn (c, W) (b, X)) : a = b ∧ WR R U X := by
  simp only [rtn, Prod.mk.injEq] at hx hm
  obtain ⟨rfl, rfl⟩ := hx
  obtain ⟨rfl, rfl⟩ := hm
  exact ⟨rfl, h⟩
theorem RPl.cl {c k N c2 k2 : Nat → Int} {l : Nat} (h : RPl c k N l) (hc : ∀ j : Nat, j < 8 → c2 j = c j) (hk : ∀ j : Nat, j < 7 → k2 j = k j) : RPl c2 k2 N l := by
  unfold RPl dedX at h ⊢
  rw [hc 0 (by decide), hc 1 (by decide), hc 2 (by decide), hc 3 (by decide), hc 4 (by decide), hc 5 (by decide), hc 6 (by decide), hc 7 (by decide)]
  exact ⟨h.1, h.2.1, h.2.2.1, h.2.2.2.1, h.2.2.2.2.1, h.2.2.2.2.2.1, fun j hj => by rw [hk j hj]; exact h.2.2.2.2.2.2.1 j hj, h.2.2.2.2.2.2.2⟩
theorem RLz.pl {b x : Nat} {V U : Nat → Nat → Int} {N M : Nat → Int} (h : RLz b V N) (hx : x < 4) (hU : ∀ i : Nat, b ≤ i → i ≤ b + 18 → i ≠ b + 3 + 2 * x → i ≠ b + 3 + 2 * x + 1 → U i = V i)
    (hM : ∀ k : Nat, k < 81 → k ≠ x → k ≠ 4 + x → k ≠ 8 + x → k ≠ 12 + x → k ≠ 16 + x → k ≠ 20 + x → ¬ (24 + 7 * x ≤ k ∧ k < 31 + 7 * x) → k ≠ 76 → k ≠ 77 → M k = N k)
    (h76 : (0 ≤ M 76 ∧ M 76 < 16) ∧ ∀ l : Nat, l < 4 → l ≠ x → bt (M 76) l = bt (N 76) l) (h77 : (0 ≤ M 77 ∧ M 77 < 16) ∧ ∀ l : Nat, l < 4 → l ≠ x → bt (M 77) l = bt (N 77) l) (hn : RPl (U (b + 3 + 2 * x)) (U (b + 3 + 2 * x + 1)) M x) : RLz b U M := by
  obtain ⟨a1, a2, a3, a4, a5, a6, a7, a8, a9, a10⟩ := h
  have e : ∀ k : Nat, 52 ≤ k → k < 81 → k ≠ 76 → k ≠ 77 → M k = N k := fun k k1 k2 k3 k4 => hM k k2 (by omega) (by omega) (by omega) (by omega) (by omega) (by omega) (by omega) k3 k4
  have eb := hU b (by omega) (by omega) (by omega) (by omega)
  have e78 := e 78 (by decide) (by decide) (by decide) (by decide)
  have e79 := e 79 (by decide) (by decide) (by decide) (by decide)
  have e80 := e 80 (by decide) (by decide) (by decide) (by decide)
  refine ⟨fun l hl => ?_, fun p hp => (a2 p hp).cg (hU _ (by omega) (by omega) (by omega) (by omega)) (fun j hj => e j (by omega) (by omega) (by omega) (by omega)) e78, by rw [eb, e78]; exact a3, by rw [eb, e79]; exact a4, by rw [eb, e80]; exact a5, h76.1, h77.1, by rw [e78]; exact a8, by rw [e79]; exact a9, by rw [e80]; exact a10⟩
  by_cases g : l = x
  · subst g; exact hn
  · exact (a1 l hl).cg (hU _ (by omega) (by omega) (by omega) (by omega)) (hU _ (by omega) (by omega) (by omega) (by omega)) (fun j hj => hM j (by omega) (by omega) (by omega) (by omega) (by omega) (by omega) (by omega) (by omega) (by omega) (by omega)) (h76.2 l hl g) (h77.2 l hl g)
theorem RLz.pe {b x : Nat} {V U : Nat → Nat → Int} {N M : Nat → Int} (h : RLz b V N) (hx : x < 8) (hU : ∀ i : Nat, b < i → i ≤ b + 18 → i ≠ b + 11 + x → U i = V i) (hb : U b 2 = cnt (M 78) ∧ U b 3 = V b 3 ∧ U b 4 = V b 4)
    (hM : ∀ k : Nat, k < 81 → k ≠ 52 + x → k ≠ 60 + x → k ≠ 68 + x → k ≠ 78 → M k = N k)
    (h78 : (0 ≤ M 78 ∧ M 78 < 256) ∧ ∀ l : Nat, l < 8 → l ≠ x → bt (M 78) l = bt (N 78) l) (hn : RPe (U (b + 11 + x)) M x) : RLz b U M := by
  obtain ⟨a1, a2, a3, a4, a5, a6, a7, a8, a9, a10⟩ := h
  have e : ∀ k : Nat, k < 81 → (k < 52 ∨ 75 < k) → k ≠ 78 → M k = N k := fun k k2 k3 k4 => hM k k2 (by omega) (by omega) (by omega) k4
  have e76 := e 76 (by decide) (by decide) (by decide)
  have e77 := e 77 (by decide) (by decide) (by decide)
  have e79 := e 79 (by decide) (by decide) (by decide)
  have e80 := e 80 (by decide) (by decide) (by decide)
  refine ⟨fun l hl => (a1 l hl).cg (hU _ (by omega) (by omega) (by omega)) (hU _ (by omega) (by omega) (by omega)) (fun j hj => e j (by omega) (by omega) (by omega)) (by rw [e76]) (by rw [e77]), fun p hp => ?_, hb.1, by rw [hb.2.1, e79]; exact a4, by rw [hb.2.2, e80]; exact a5, by rw [e76]; exact a6, by rw [e77]; exact a7, h78.1, by rw [e79]; exact a9, by rw [e80]; exact a10⟩
  by_cases g : p = x
  · subst g; exact hn
  · have k := a2 p hp
    unfold RPe at k ⊢
    rw [hU _ (by omega) (by omega) (by omega), h78.2 p hp g, hM (52 + p) (by omega) (by omega) (by omega) (by omega) (by omega), hM (60 + p) (by omega) (by omega) (by omega) (by omega) (by omega), hM (68 + p) (by omega) (by omega) (by omega) (by omega) (by omega)]
    exact k
theorem q_fill {c : Nat} {x : Int} {V J U : Nat → Nat → Int} {R : Nat → Nat → Nat} (h : f_s_fillK c x V J R U) : (∀ i : Nat, i ≠ c + 1 → U i = V i) ∧ ∀ j : Nat, j < 7 → U (c + 1) j = x := by
  unfold f_s_fillK at h
  obtain ⟨b, hb, h⟩ := lop2_g h
  have key : ∀ (n : Nat) (z : Nat) (W : Nat → Nat → Int), (∀ i : Nat, i ≠ c + 1 → W i = V i) → (∀ j : Nat, j < z → W (c + 1) j = x) → lop2 n b (z : Int) W U → (∀ i : Nat, i ≠ c + 1 → U i = V i) ∧ ∀ j : Nat, j < 7 → U (c + 1) j = x := by
    intro n
    induction n with
    | zero => intro z W _ _ h; exact False.elim h
    | succ n ih =>
      intro z W h1 h2 h
      rw [lop2_s hb] at h
      by_cases g : (7 : Int) ≤ z
      · rw [if_pos g] at h
        have h : U = W := h
        subst h
        exact ⟨h1, fun j hj => h2 j (by omega)⟩
      · rw [if_neg g] at h
        refine ih (z + 1) _ (fun i hi => ?_) (fun j hj => ?_) (by rw [Int.natCast_add]; exact h)
        · rw [up2_c _ _ hi]; exact h1 i hi
        · rw [Int.toNat_natCast]
          by_cases e : j = z
          · rw [e, up2_s]
          · rw [up2_n _ _ (Or.inr e)]; exact h2 j (by omega)
  exact key 9 0 V (fun _ _ => rfl) (fun j hj => absurd hj (by omega)) h
theorem q_tell {c : Nat} {p w d : Int} {V J U : Nat → Nat → Int} {R : Nat → Nat → Nat} (h : f_s_tell c p w d V J R U) : (∀ i : Nat, i ≠ c → i ≠ c + 1 → U i = V i) ∧ (U c 0 = 1 ∧ U c 1 = p ∧ U c 2 = w ∧ U c 3 = d ∧ U c 4 = 0 ∧ U c 5 = 0 ∧ U c 6 = 0 ∧ U c 7 = -1) ∧ ∀ j : Nat, j < 7 → U (c + 1) j = w := by
  unfold f_s_tell at h
  obtain ⟨V1, e1, h⟩ := rdb_g h
  obtain ⟨V2, e2, h⟩ := rdb_g h
  obtain ⟨V3, e3, h⟩ := rdb_g h
  obtain ⟨V4, e4, h⟩ := rdb_g h
  obtain ⟨V5, e5, h⟩ := rdb_g h
  obtain ⟨V6, e6, h⟩ := rdb_g h
  obtain ⟨V7, e7, h⟩ := rdb_g h
  obtain ⟨V8, e8, h⟩ := rdb_g h
  obtain ⟨V9, h9, -, h⟩ := h
  have h : U = V9 := h
  subst h
  obtain ⟨f1, f2⟩ := q_fill h9
  have ec : U c = up1 (up1 (up1 (up1 (up1 (up1 (up1 (up1 (V c) 0 1) 1 p) 2 w) 3 d) 4 0) 5 0) 6 0) 7 (-1) := by
    rw [f1 c (by omega), ← e8, up2_row, ← e7, up2_row, ← e6, up2_row, ← e5, up2_row, ← e4, up2_row, ← e3, up2_row, ← e2, up2_row, ← e1, up2_row]
  refine ⟨fun i hi h2 => ?_, ?_, f2⟩
  · rw [f1 i h2, ← e8, up2_c _ _ hi, ← e7, up2_c _ _ hi, ← e6, up2_c _ _ hi, ← e5, up2_c _ _ hi, ← e4, up2_c _ _ hi, ← e3, up2_c _ _ hi, ← e2, up2_c _ _ hi, ← e1, up2_c _ _ hi]
  · rw [ec]
    exact ⟨rfl, rfl, rfl, rfl, rfl, rfl, rfl, rfl⟩
theorem q_mFill {x : Nat} {w r : Int} {V U : Nat → Nat → Int} {b : (Int → (Nat → Nat → Int) → (Int × (Nat → Nat → Int)) → Prop) → Int → (Nat → Nat → Int) → (Int × (Nat → Nat → Int)) → Prop}
    (hb : b = (fun rc46 (z45 : Int) (V46 : Nat → Nat → Int) => (if 7 ≤ z45 then rtn (1, V46) else rdb (up2 V46 1 ((7 * (x : Int) + z45 + 24).toNat) w) fun V50 => rc46 (z45 + 1) V50))) (h : lop2 9 b 0 V (r, U)) :
    r = 1 ∧ (∀ i : Nat, i ≠ 1 → U i = V i) ∧ (∀ j : Nat, j < 7 → U 1 (24 + 7 * x + j) = w) ∧ ∀ k : Nat, ¬ (24 + 7 * x ≤ k ∧ k < 31 + 7 * x) → U 1 k = V 1 k := by
  have key : ∀ (n : Nat) (z : Nat) (W : Nat → Nat → Int), z ≤ 7 → (∀ i : Nat, i ≠ 1 → W i = V i) → (∀ j : Nat, j < z → W 1 (24 + 7 * x + j) = w) → (∀ k : Nat, ¬ (24 + 7 * x ≤ k ∧ k < 31 + 7 * x) → W 1 k = V 1 k) → lop2 n b (z : Int) W (r, U) → r = 1 ∧ (∀ i : Nat, i ≠ 1 → U i = V i) ∧ (∀ j : Nat, j < 7 → U 1 (24 + 7 * x + j) = w) ∧ ∀ k : Nat, ¬ (24 + 7 * x ≤ k ∧ k < 31 + 7 * x) → U 1 k = V 1 k := by
    intro n
    induction n with
    | zero => intro z W _ _ _ _ h; exact False.elim h
    | succ n ih =>
      intro z W hz h1 h2 h3 h
      rw [lop2_s hb] at h
      by_cases g : (7 : Int) ≤ z
      · rw [if_pos g] at h
        simp only [rtn, Prod.mk.injEq] at h
        obtain ⟨rfl, rfl⟩ := h
        exact ⟨rfl, h1, fun j hj => h2 j (by omega), h3⟩
      · rw [if_neg g] at h
        have ei : (7 * (x : Int) + (z : Int) + 24).toNat = 24 + 7 * x + z := by omega
        refine ih (z + 1) _ (by omega) (fun i hi => ?_) (fun j hj => ?_) (fun k hk => ?_) (by rw [Int.natCast_add]; exact h)
        · rw [up2_c _ _ hi]; exact h1 i hi
        · rw [ei]
          by_cases e : j = z
          · rw [e, up2_s]
          · rw [up2_n _ _ (Or.inr (by omega))]; exact h2 j (by omega)
        · rw [ei, up2_n _ _ (Or.inr (by omega))]
          exact h3 k hk
  exact key 9 0 V (by omega) (fun _ _ => rfl) (fun j hj => absurd hj (by omega)) (fun _ _ => rfl) h
theorem w_plant {x p w d a b : Int} {V V2 J W Jm X : Nat → Nat → Int} {R Rm : Nat → Nat → Nat} (h : WR R V W) (hx : f_s_plant x p w d V J R (a, V2)) (hm : f_m_plant x p w d W Jm Rm (b, X)) : a = b ∧ WR R V2 X := by
  unfold f_s_plant at hx
  unfold f_m_plant at hm
  obtain ⟨z1, h1, -, hx⟩ := hx
  obtain ⟨y1, k1, -, hm⟩ := hm
  have h1 := q_sPlace h1
  have e1 : z1 = y1 := h1.eq (q_mIn k1) (by omega)
  subst e1
  by_cases g1 : z1 = 0
  · rw [if_pos g1] at hx hm
    exact h.same hx hm
  rw [if_neg g1] at hx hm
  have g1 := h1.on g1
  obtain ⟨z5, h5, -, hx⟩ := hx
  obtain ⟨y5, k5, -, hm⟩ := hm
  have h5 := q_sWithin h5
  have e5 : z5 = y5 := h5.eq (q_mIn k5) (by omega)
  subst e5
  by_cases g5 : z5 = 0
  · rw [if_neg (fun hh => hh g5)] at hx
    rw [if_pos g5] at hm
    exact h.same hx hm
  rw [if_pos g5] at hx
  rw [if_neg g5] at hm
  have g5 := h5.on g5
  obtain ⟨z8, h8, -, hx⟩ := hx
  obtain ⟨y8, k8, -, hm⟩ := hm
  have h8 := q_sWithin h8
  have e8 : z8 = y8 := h8.eq (q_mIn k8) (by omega)
  subst e8
  by_cases g8 : z8 = 0
  · rw [if_pos g8] at hx hm
    exact h.same hx hm
  rw [if_neg g8] at hx hm
  have g8 := h8.on g8
  obtain ⟨z12, h12, -, hx⟩ := hx
  obtain ⟨y12, k12, -, hm⟩ := hm
  have h12 := q_sWithin h12
  have e12 : z12 = y12 := h12.eq (q_mIn k12) (by omega)
  subst e12
  by_cases g12 : z12 = 0
  · rw [if_neg (fun hh => hh g12)] at hx hm
    exact h.same hx hm
  rw [if_pos g12] at hx hm
  have g12 := h12.on g12
  clear h1 k1 h5 k5 h8 k8 h12 k12
  obtain ⟨n, rfl⟩ : ∃ n : Nat, x = (n : Int) := ⟨x.toNat, by omega⟩
  have hn : n < 4 := by omega
  obtain ⟨c, ec, hx⟩ := rdb_g hx
  obtain ⟨U, hU, -, hx⟩ := hx
  simp only [rtn, Prod.mk.injEq] at hx
  obtain ⟨rfl, rfl⟩ := hx
  rw [Int.toNat_natCast] at ec
  subst ec
  obtain ⟨u1, u2, u3⟩ := q_tell hU
  obtain ⟨s, f1, hm⟩ := rdb_g hm
  obtain ⟨s2, f2, hm⟩ := rdb_g hm
  obtain ⟨s3, f3, hm⟩ := rdb_g hm
  obtain ⟨W1, f4, hm⟩ := rdb_g hm
  obtain ⟨s5, f5, hm⟩ := rdb_g hm
  obtain ⟨s6, f6, hm⟩ := rdb_g hm
  obtain ⟨s7, f7, hm⟩ := rdb_g hm
  obtain ⟨s8, f8, hm⟩ := rdb_g hm
  obtain ⟨W2, f9, hm⟩ := rdb_g hm
  obtain ⟨W3, f10, hm⟩ := rdb_g hm
  obtain ⟨W4, f11, hm⟩ := rdb_g hm
  obtain ⟨W5, f12, hm⟩ := rdb_g hm
  obtain ⟨W6, f13, hm⟩ := rdb_g hm
  obtain ⟨W7, f14, hm⟩ := rdb_g hm
  obtain ⟨W8, f15, hm⟩ := rdb_g hm
  obtain ⟨m1, m2, m3, m4⟩ := q_mFill rfl hm
  refine ⟨m1.symm, ?_⟩
  have hRL := h.1.1
  have r76 := hRL.2.2.2.2.2.1
  have r77 := hRL.2.2.2.2.2.2.1
  have o76 := bt_or (s := W 1 76) (p := n) ⟨r76.1, by omega⟩ ⟨by omega, by omega⟩
  have q76 := bt_or4 (s := W 1 76) (p := n) r76 ⟨by omega, by omega⟩
  have o77 := bt_cl (s := W 1 77) (p := n) r77 ⟨by omega, by omega⟩
  rw [← f5, ← f4, up2_n _ _ (Or.inr (by decide))] at f8
  have w8 : ∀ i : Nat, i ≠ 1 → W8 i = W i := fun i hi => by rw [← f15, up2_c _ _ hi, ← f14, up2_c _ _ hi, ← f13, up2_c _ _ hi, ← f12, up2_c _ _ hi, ← f11, up2_c _ _ hi, ← f10, up2_c _ _ hi, ← f9, up2_c _ _ hi, ← f4, up2_c _ _ hi]
  have e4 : ((n : Int) + 4).toNat = 4 + n := by omega
  have e8 : ((n : Int) + 8).toNat = 8 + n := by omega
  have e12 : ((n : Int) + 12).toNat = 12 + n := by omega
  have e16 : ((n : Int) + 16).toNat = 16 + n := by omega
  have e20 : ((n : Int) + 20).toNat = 20 + n := by omega
  have r8 : W8 1 = up1 (up1 (up1 (up1 (up1 (up1 (up1 (up1 (W 1) 76 s3) 77 s8) n p) (4 + n) w) (8 + n) d) (12 + n) 0) (16 + n) 0) (20 + n) (-2) := by
    rw [← f15, up2_row, ← f14, up2_row, ← f13, up2_row, ← f12, up2_row, ← f11, up2_row, ← f10, up2_row, ← f9, up2_row, ← f4, up2_row, e4, e8, e12, e16, e20, Int.toNat_natCast]
  have x76 : X 1 76 = iOr (W 1 76) (iShl 1 n) := by
    rw [m4 76 (by omega), r8, up1_of (by omega), up1_of (by omega), up1_of (by omega), up1_of (by omega), up1_of (by omega), up1_of (by omega), up1_of (by omega), up1_at, ← f3, ← f2, ← f1]
  have x77 : X 1 77 = iAnd (W 1 77) (iXor (iShl 1 n) (-1)) := by
    rw [m4 77 (by omega), r8, up1_of (by omega), up1_of (by omega), up1_of (by omega), up1_of (by omega), up1_of (by omega), up1_of (by omega), up1_at, ← f8, ← f7, ← f6]
  have xo : ∀ k : Nat, k < 81 → k ≠ n → k ≠ 4 + n → k ≠ 8 + n → k ≠ 12 + n → k ≠ 16 + n → k ≠ 20 + n → ¬ (24 + 7 * n ≤ k ∧ k < 31 + 7 * n) → k ≠ 76 → k ≠ 77 → X 1 k = W 1 k := fun k _ k1 k2 k3 k4 k5 k6 k7 k8 k9 => by
    rw [m4 k k7, r8, up1_of k6, up1_of k5, up1_of k4, up1_of k3, up1_of k2, up1_of k1, up1_of k9, up1_of k8]
  have b76 : bt (X 1 76) n = 1 := by rw [x76, o76.2 n ⟨by omega, by omega⟩, if_pos rfl]
  have b77 : bt (X 1 77) n = 0 := by rw [x77, o77.2 n ⟨by omega, by omega⟩, if_pos rfl]
  obtain ⟨v0, v1, v2, v3, v4, v5, v6, v7⟩ := u2
  refine h.land1 ⟨hRL.pl hn (fun i i1 i2 i3 i4 => u1 i (by omega) (by omega)) xo ⟨by rw [x76]; exact q76, fun l hl hne => by rw [x76, o76.2 l ⟨by omega, by omega⟩, if_neg (by omega)]⟩ ⟨by rw [x77]; exact o77.1, fun l hl hne => by rw [x77, o77.2 l ⟨by omega, by omega⟩, if_neg (by omega)]⟩ ?_, ?_⟩ (fun i hi => u1 i (by omega) (by omega)) (fun i hi => by rw [m2 i hi, w8 i hi])
  · show RPl (V2 (1 + 3 + 2 * n)) (V2 (1 + 3 + 2 * n + 1)) (X 1) n
    have x0 : X 1 n = p := by rw [m4 n (by omega), r8, up1_of (by omega), up1_of (by omega), up1_of (by omega), up1_of (by omega), up1_of (by omega), up1_at]
    have x4 : X 1 (4 + n) = w := by rw [m4 (4 + n) (by omega), r8, up1_of (by omega), up1_of (by omega), up1_of (by omega), up1_of (by omega), up1_at]
    have x8 : X 1 (8 + n) = d := by rw [m4 (8 + n) (by omega), r8, up1_of (by omega), up1_of (by omega), up1_of (by omega), up1_at]
    have x12 : X 1 (12 + n) = 0 := by rw [m4 (12 + n) (by omega), r8, up1_of (by omega), up1_of (by omega), up1_at]
    have x16 : X 1 (16 + n) = 0 := by rw [m4 (16 + n) (by omega), r8, up1_of (by omega), up1_at]
    have x20 : X 1 (20 + n) = -2 := by rw [m4 (20 + n) (by omega), r8, up1_at]
    unfold RPl dedX
    rw [b76, b77, x0, x4, x8, x12, x16, x20, v0, v1, v2, v3, v4, v5, v6, v7]
    exact ⟨rfl, rfl, rfl, rfl, rfl, rfl, fun j hj => by rw [u3 j hj, m3 j hj], fun _ => Or.inl ⟨rfl, rfl⟩, by omega, by omega, by omega, by omega, by omega, by omega⟩
  · rw [xo 79 (by decide) (by omega) (by omega) (by omega) (by omega) (by omega) (by omega) (by omega) (by decide) (by decide)]
    exact h.1.2
theorem w_person {x k t a b : Int} {V V2 J W Jm X : Nat → Nat → Int} {R Rm : Nat → Nat → Nat} (h : WR R V W) (hx : f_s_person x k t V J R (a, V2)) (hm : f_m_person x k t W Jm Rm (b, X)) : a = b ∧ WR R V2 X := by
  unfold f_s_person at hx
  unfold f_m_person at hm
  obtain ⟨z1, h1, -, hx⟩ := hx
  obtain ⟨y1, k1, -, hm⟩ := hm
  have h1 := q_sPlace h1
  have e1 : z1 = y1 := h1.eq (q_mIn k1) (by omega)
  subst e1
  by_cases g1 : z1 = 0
  · rw [if_pos g1] at hx hm
    exact h.same hx hm
  rw [if_neg g1] at hx hm
  have g1 := h1.on g1
  obtain ⟨z5, h5, -, hx⟩ := hx
  obtain ⟨y5, k5, -, hm⟩ := hm
  have h5 := q_sWithin h5
  have e5 : z5 = y5 := h5.eq (q_mIn k5) (by omega)
  subst e5
  by_cases g5 : z5 = 0
  · rw [if_pos g5] at hx hm
    exact h.same hx hm
  rw [if_neg g5] at hx hm
  have g5 := h5.on g5
  obtain ⟨z8, h8, -, hx⟩ := hx
  obtain ⟨y8, k8, -, hm⟩ := hm
  have h8 := q_sPlace h8
  have e8 : z8 = y8 := h8.eq (q_mIn k8) (by omega)
  subst e8
  by_cases g8 : z8 = 0
  · rw [if_neg (fun hh => hh g8)] at hx hm
    exact h.same hx hm
  rw [if_pos g8] at hx hm
  have g8 := h8.on g8
  clear h1 k1 h5 k5 h8 k8
  obtain ⟨n, rfl⟩ : ∃ n : Nat, x = (n : Int) := ⟨x.toNat, by omega⟩
  have hn : n < 8 := by omega
  have hRL := h.1.1
  have r78 := hRL.2.2.2.2.2.2.2.1
  have o78 := bt_or (s := W 1 78) (p := n) r78 ⟨by omega, by omega⟩
  have n78 := cnt_or (s := W 1 78) (p := n) r78 ⟨by omega, by omega⟩
  have cr := cnt_r (W 1 78)
  have br := bt_r (W 1 78) n
  obtain ⟨U, hU, -, hx⟩ := hx
  simp only [rtn, Prod.mk.injEq] at hx
  obtain ⟨rfl, rfl⟩ := hx
  unfold f_s_tellPerson at hU
  obtain ⟨c, ec, hU⟩ := rdb_g hU
  rw [Int.toNat_natCast, Nat.one_mul] at ec
  obtain ⟨z2, e2, hU⟩ := rdb_g hU
  obtain ⟨z3, e3, hU⟩ := rdb_g hU
  obtain ⟨-, hU⟩ := hU
  have hU := jnk_if hU
  obtain ⟨z6, e6, hU⟩ := rdb_g hU
  obtain ⟨V7, e7, hU⟩ := rdb_g hU
  obtain ⟨V8, e8, hU⟩ := rdb_g hU
  obtain ⟨V9, e9, hU⟩ := rdb_g hU
  obtain ⟨V10, e10, hU⟩ := rdb_g hU
  obtain ⟨V11, e11, hU⟩ := rdb_g hU
  have hU : V2 = V11 := hU
  subst hU
  obtain ⟨s, f1, hm⟩ := rdb_g hm
  obtain ⟨s2, f2, hm⟩ := rdb_g hm
  obtain ⟨s3, f3, hm⟩ := rdb_g hm
  obtain ⟨W1, f4, hm⟩ := rdb_g hm
  obtain ⟨W2, f5, hm⟩ := rdb_g hm
  obtain ⟨W3, f6, hm⟩ := rdb_g hm
  obtain ⟨W4, f7, hm⟩ := rdb_g hm
  simp only [rtn, Prod.mk.injEq] at hm
  obtain ⟨rfl, rfl⟩ := hm
  refine ⟨rfl, ?_⟩
  have e52 : ((n : Int) + 52).toNat = 52 + n := by omega
  have e60 : ((n : Int) + 60).toNat = 60 + n := by omega
  have e68 : ((n : Int) + 68).toNat = 68 + n := by omega
  have xr : X 1 = up1 (up1 (up1 (up1 (W 1) 78 s3) (52 + n) k) (60 + n) t) (68 + n) 0 := by
    rw [← f7, up2_row, ← f6, up2_row, ← f5, up2_row, ← f4, up2_row, e52, e60, e68]
  have x78 : X 1 78 = iOr (W 1 78) (iShl 1 n) := by
    rw [xr, up1_of (by omega), up1_of (by omega), up1_of (by omega), up1_at, ← f3, ← f2, ← f1]
  have xo : ∀ k : Nat, k < 81 → k ≠ 52 + n → k ≠ 60 + n → k ≠ 68 + n → k ≠ 78 → X 1 k = W 1 k := fun k _ k1 k2 k3 k4 => by
    rw [xr, up1_of k3, up1_of k2, up1_of k1, up1_of k4]
  have hP := hRL.2.1 n hn
  have ec0 : c = 1 + 11 + n := by omega
  subst ec0
  have vr : V2 (1 + 11 + n) = up1 (up1 (up1 (up1 (V (1 + 11 + n)) 0 1) 1 k) 2 t) 3 0 := by
    rw [← e11, up2_row, ← e10, up2_row, ← e9, up2_row, ← e8, up2_row, ← e7, up2_c _ _ (by omega)]
  have vo : ∀ i : Nat, i ≠ 1 + 11 + n → i ≠ 1 → V2 i = V i := fun i i1 i2 => by
    rw [← e11, up2_c _ _ i1, ← e10, up2_c _ _ i1, ← e9, up2_c _ _ i1, ← e8, up2_c _ _ i1, ← e7, up2_c _ _ i2]
  have v1 : V2 1 = up1 (V 1) 2 z6 := by
    rw [← e11, up2_c _ _ (by omega), ← e10, up2_c _ _ (by omega), ← e9, up2_c _ _ (by omega), ← e8, up2_c _ _ (by omega), ← e7, up2_row]
  have ez6 : z6 = cnt (X 1 78) := by
    have a2 : V 1 2 = cnt (W 1 78) := hRL.2.2.1
    have a3 : V (1 + 11 + n) 0 = bt (W 1 78) n := hP.1
    rw [x78, n78, ← e6]
    by_cases g : z3 = 0
    · rw [if_pos g]
      have := wr_id (z := z2 + 1) ⟨by omega, by omega⟩
      omega
    · rw [if_neg g]
      have := wr_id (z := z2 + 0) ⟨by omega, by omega⟩
      omega
  refine h.land1 ⟨hRL.pe hn (fun i i1 i2 i3 => vo i i3 (by omega)) ⟨?_, by rw [v1]; rfl, by rw [v1]; rfl⟩ xo ⟨by rw [x78]; exact o78.1, fun l hl hne => by rw [x78, o78.2 l ⟨by omega, by omega⟩, if_neg (by omega)]⟩ ?_, ?_⟩ (fun i hi => vo i (by omega) (by omega)) (fun i hi => ?_)
  · rw [v1, up1_at]; exact ez6
  · show RPe (V2 (1 + 11 + n)) (X 1) n
    unfold RPe
    rw [x78, o78.2 n ⟨by omega, by omega⟩, if_pos rfl, vr, xr]
    refine ⟨rfl, ?_, ?_, ?_⟩
    · rw [up1_of (k := 68 + n) (by omega), up1_of (k := 60 + n) (by omega), up1_at]; rfl
    · rw [up1_of (k := 68 + n) (by omega), up1_at]; rfl
    · rw [up1_at (k := 68 + n)]; rfl
  · rw [xo 79 (by decide) (by omega) (by omega) (by omega) (by decide)]
    exact h.1.2
  · rw [← f7, up2_c _ _ hi, ← f6, up2_c _ _ hi, ← f5, up2_c _ _ hi, ← f4, up2_c _ _ hi]
