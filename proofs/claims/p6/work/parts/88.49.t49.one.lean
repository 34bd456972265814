-- one plant of a landing alone (own work)
def RLq (b l : Nat) (V : Nat → Nat → Int) (N : Nat → Int) : Prop :=
  RPl (V (b + 3 + 2 * l)) (V (b + 3 + 2 * l + 1)) N l ∧ (∀ p : Nat, p < 8 → RPe (V (b + 11 + p)) N p) ∧ V b 2 = cnt (N 78) ∧ V b 3 = N 79 ∧ V b 4 = N 80 ∧
  (0 ≤ N 76 ∧ N 76 < 16) ∧ (0 ≤ N 77 ∧ N 77 < 16) ∧ (0 ≤ N 78 ∧ N 78 < 256) ∧ 0 ≤ N 79 ∧ (0 ≤ N 80 ∧ N 80 ≤ 65535)
theorem RLz.q {b l : Nat} {V : Nat → Nat → Int} {N : Nat → Int} (h : RLz b V N) (hl : l < 4) : RLq b l V N := ⟨h.1 l hl, h.2⟩
theorem d_goesQ {b l : Nat} {lt a z : Int} {Vx Jx Vm W Jm Ux Um : Nat → Nat → Int} {Rx Rm : Nat → Nat → Nat} (hb : isLa b) (hl : l < 4) (hR : RLq b l Vx (Vm 1)) (hT : RTx Rx Vx W) (ht : Vx (b + 3 + 2 * l) 0 = 1)
    (h0 : W 18 0 = Vm 1 79 ∧ W 18 1 = iRem (Vm 1 79) 7 ∧ W 18 10 = cnt (Vm 1 78)) (h1 : W 18 2 = l ∧ W 18 3 = Vm 1 l ∧ W 18 4 = Vm 1 (4 + l) ∧ W 18 5 = Vm 1 (30 + 7 * l) ∧ W 18 6 = Vm 1 (12 + l) ∧ W 18 7 = Vm 1 (16 + l) ∧ W 18 11 = agM (Vm 1 (20 + l)) (Vm 1 79)) (h2 : W 18 8 = 0 ∧ W 18 9 = 0 ∧ W 18 12 = 0)
    (hx : f_s_goes b l lt Vx Jx Rx (a, Ux)) (hm : f_m_byText 0 lt 9 W Jm Rm (z, Um)) : a = z ∧ (0 ≤ a ∧ a ≤ 999) ∧ (∀ i : Nat, i ≠ 69 → i ≠ 70 → i ≠ 71 → Ux i = Vx i) ∧ ∀ i : Nat, i ≠ 17 → Um i = W i := by
  have bb := isLa_b hb
  simp only [f_s_goes, rdb, Int.toNat_natCast] at hx
  obtain ⟨V4, h4, -, V7, h7, -, V10, h10, -, a2, V13, h13, B13, ar, hx⟩ := hx
  simp only [rtn, Prod.mk.injEq] at hx
  obtain ⟨rfl, rfl⟩ := hx
  obtain ⟨e4, r4⟩ := q_onDay h4
  obtain ⟨e7, r7⟩ := q_of h7 (by omega)
  obtain ⟨e10, r10⟩ := q_byNobody h10
  obtain ⟨hpl, hPe, hn, hd, -⟩ := hR
  have k4 : V4 b = Vx b := r4 b (by omega)
  have k4c : V4 (b + 3 + 2 * l) = Vx (b + 3 + 2 * l) := r4 _ (by omega)
  have k4k : V4 (b + 3 + 2 * l + 1) = Vx (b + 3 + 2 * l + 1) := r4 _ (by omega)
  rw [k4, k4c, k4k, e4] at e7
  rw [e7] at e10
  have hxr : ∀ i : Nat, i ≠ 70 → V10 i = Vx i := fun i hi => by rw [r10 i hi, r7 i hi, r4 i hi]
  have hT2 := hT.cg (Ux := V10) (Um := W) (fun i h1 h2 h3 => hxr i (by omega)) (fun i h1 h2 => rfl)
  have hRF : RF V10 W := felt (b := b) (l := l) (V := Vx) (N := Vm) (f := V10 70) (F := W 18) (d := Vx b 3) (n := Vx b 2) (p := 0) (t := 0) (q := 0) (c := Vx (b + 3 + 2 * l)) (k := Vx (b + 3 + 2 * l + 1)) e10 hpl ht hd hn h0 h1 h2
  obtain ⟨g1, g2, g3⟩ := q_ask (tx := 0) hT2.1.1 (by decide) hT2.1.2 hRF (by decide) h13 hm
  exact ⟨g1, ar, fun i i1 i2 i3 => (B13.row (i := i) (fun k hk => by omega)).trans (hxr i i2), g3⟩
theorem d_endQ {b l : Nat} {s : Int} {Vx Jx Vm Jm Ux Um : Nat → Nat → Int} {Rx Rm : Nat → Nat → Nat} (hb : isLa b) (hl : l < 4) (hD : RLq b l Vx (Vm 1)) (hT : RTx Rx Vx Vm) (h76 : bt (Vm 1 76) l = 1) (h77 : ¬ bt (Vm 1 77) l = 1)
    (hx : f_s_endDay b l s Vx Jx Rx Ux) (hm : f_m_dries l s Vm Jm Rm Um) : RLq b l Ux (Um 1) ∧ ((Vx b 5 = Vm 0 27 → Ux b 5 = Um 0 27) ∧ (Vx b 6 = Vm 0 28 → Ux b 6 = Um 0 28) ∧ (Vx b 7 = Vm 0 29 → Ux b 7 = Um 0 29)) ∧ RTx Rx Ux Um ∧ (Um 1 78 = Vm 1 78 ∧ Um 1 79 = Vm 1 79) ∧ (∀ i : Nat, i ≠ 69 → i ≠ 70 → i ≠ 71 → i ≠ b + 3 + 2 * l → i ≠ b + 3 + 2 * l + 1 → Ux i = Vx i) ∧ (∀ k : Nat, k ≠ 4 + l → k ≠ 12 + l → k ≠ 16 + l → k ≠ 77 → (k < 24 + 7 * l ∨ 30 + 7 * l < k) → Um 1 k = Vm 1 k) := by
  have bb := isLa_b hb
  have hR := hD
  have hR0 := hR
  obtain ⟨hPl, hPe, hn, hd, hx4, hs76, hs77, hs78, h79, h80⟩ := hR
  have hpl := hPl
  obtain ⟨p0, p1, p2, p3, p4, p5, p6, p7, p8, p9, p10, p11, p12, p13⟩ := hpl
  have ht : Vx (b + 3 + 2 * l) 0 = 1 := p0.trans h76
  have nd : ¬ dedX (Vx (b + 3 + 2 * l)) := fun h => h77 (p8.mpr h)
  have nd2 : Vx (b + 3 + 2 * l) 4 < Vx (b + 3 + 2 * l) 3 ∧ Vx (b + 3 + 2 * l) 5 < Vx (b + 3 + 2 * l) 3 := by
    unfold dedX at nd
    omega
  unfold f_m_dries at hm
  obtain ⟨d0, ed0, -, hm⟩ := rdb_g hm
  obtain ⟨r0, er0, -, hm⟩ := rdb_g hm
  rw [show ((l : Int) + 12).toNat = 12 + l by omega] at ed0
  rw [show ((l : Int) + 16).toNat = 16 + l by omega] at er0
  obtain ⟨W3, h3, -, hm⟩ := hm
  obtain ⟨ge, W4, h4, -, -, hm⟩ := hm
  obtain ⟨f1, f2, f3, f4⟩ := q_feelsPlant h3 ⟨by omega, by omega⟩
  rw [Int.toNat_natCast] at f3
  unfold f_s_endDay at hx
  obtain ⟨g, V1, h1, -, -, hx⟩ := hx
  have hT3 := hT.cg (Ux := Vx) (Um := W3) (fun _ _ _ _ => rfl) (fun i i1 i2 => f1 i (by omega))
  obtain ⟨e1, r1, x1, m1⟩ := d_goesQ hb hl hR0 hT3 ht f2 f3 f4 h1 h4
  subst e1
  -- how many go
  have both : ∃ (V4 : Nat → Nat → Int) (W5 W9 : Nat → Nat → Int) (less w : Int), (0 ≤ less ∧ less ≤ 1998) ∧ (∀ i : Nat, i ≠ 69 → i ≠ 70 → i ≠ 71 → V4 i = Vx i) ∧ (∀ i : Nat, i ≠ 17 → i ≠ 18 → W5 i = Vm i) ∧ w = max 0 (Vm 1 (4 + l) - less) ∧ f_s_dryBy (b + 3 + 2 * l) less V4 Jx Rx Ux ∧ W9 = up2 W5 1 (4 + l) w ∧ dTail l w d0 r0 W9 Um := by
    have hW4 : ∀ i : Nat, i ≠ 17 → i ≠ 18 → W4 i = Vm i := fun i i1 i2 => (m1 i i1).trans (f1 i i2)
    have hx := jnk_d hx
    by_cases hs : s = 0
    · rw [if_pos hs] at hx hm
      obtain ⟨c5, ec5, hx⟩ := rdb_g hx
      obtain ⟨V6, h6, -, hx⟩ := hx
      have hx : Ux = V6 := hx
      subst hx
      rw [Int.toNat_natCast] at ec5
      subst ec5
      obtain ⟨y6, e6, -, hm⟩ := rdb_g hm
      obtain ⟨w, hw, hm⟩ := hm
      obtain ⟨W9, e9, hm⟩ := rdb_g hm
      have hw := q_max hw
      rw [show ((l : Int) + 4).toNat = 4 + l by omega, hW4 1 (by decide) (by decide)] at e6
      rw [show ((l : Int) + 4).toNat = 4 + l by omega] at e9
      subst e6
      exact ⟨V1, W4, W9, g, w, by omega, x1, hW4, hw, h6, e9.symm, hm⟩
    · rw [if_neg hs] at hx hm
      obtain ⟨gh, V8, h8, -, -, hx⟩ := hx
      obtain ⟨c5, ec5, hx⟩ := rdb_g hx
      obtain ⟨V6, h6, -, hx⟩ := hx
      have hx : Ux = V6 := hx
      subst hx
      rw [Int.toNat_natCast] at ec5
      subst ec5
      obtain ⟨gm, W81, h81, -, -, hm⟩ := hm
      have hR1 : RLq b l V1 (Vm 1) := by
        refine ⟨?_, fun q hq => ?_, ?_, ?_, ?_, hs76, hs77, hs78, h79, h80⟩
        · rw [x1 (b + 3 + 2 * l) (by omega) (by omega) (by omega), x1 (b + 3 + 2 * l + 1) (by omega) (by omega) (by omega)]; exact hPl
        · rw [x1 (b + 11 + q) (by omega) (by omega) (by omega)]; exact hPe q hq
        · rw [x1 b (by omega) (by omega) (by omega)]; exact hn
        · rw [x1 b (by omega) (by omega) (by omega)]; exact hd
        · rw [x1 b (by omega) (by omega) (by omega)]; exact hx4
      have hT4 := hT3.cg (Ux := V1) (Um := W4) (fun i i1 i2 i3 => x1 i (by omega) (by omega) (by omega)) (fun i i1 i2 => m1 i (by omega))
      have m18 : W4 18 = W3 18 := m1 18 (by decide)
      obtain ⟨e2, r2, x2, m2⟩ := d_goesQ hb hl hR1 hT4 (by rw [x1 _ (by omega) (by omega) (by omega)]; exact ht) (by rw [m18]; exact f2) (by rw [m18]; exact f3) (by rw [m18]; exact f4) h8 h81
      subst e2
      obtain ⟨y6, e6, -, hm⟩ := rdb_g hm
      obtain ⟨w, hw, hm⟩ := hm
      obtain ⟨W9, e9, hm⟩ := rdb_g hm
      have hw := q_max hw
      have hW8 : ∀ i : Nat, i ≠ 17 → i ≠ 18 → W81 i = Vm i := fun i i1 i2 => (m2 i i1).trans (hW4 i i1 i2)
      rw [show ((l : Int) + 4).toNat = 4 + l by omega, hW8 1 (by decide) (by decide)] at e6
      rw [show ((l : Int) + 4).toNat = 4 + l by omega] at e9
      subst e6
      exact ⟨V8, W81, W9, g + gh, w, by omega, fun i i1 i2 i3 => (x2 i i1 i2 i3).trans (x1 i i1 i2 i3), hW8, by omega, h6, e9.symm, hm⟩
  obtain ⟨V4, W5, W9, less, w, hless, hV4, hW5, hw, hdry, e9, htail⟩ := both
  have v4c : V4 (b + 3 + 2 * l) = Vx (b + 3 + 2 * l) := hV4 _ (by omega) (by omega) (by omega)
  have v4k : V4 (b + 3 + 2 * l + 1) = Vx (b + 3 + 2 * l + 1) := hV4 _ (by omega) (by omega) (by omega)
  obtain ⟨w2, d, r, ew, ed, er, ⟨u2, u4, u5, uo⟩, ⟨uk0, uk⟩, ux⟩ := q_sDry hdry (by rw [v4c]; exact p10) hless (by rw [v4c]; exact p12) (by rw [v4c]; exact p13)
  rw [v4c] at ew ed er
  have eww : w2 = w := by rw [ew, hw, p2]
  subst eww
  obtain ⟨d2, r2, ed2, er2, t1, ⟨t12, t16, t77⟩, ⟨t24, tk⟩, tof⟩ := q_dTail hl htail
  have n9 : ∀ k : Nat, k ≠ 4 + l → W9 1 k = Vm 1 k := fun k hk => by rw [e9, up2_n _ _ (Or.inr hk), hW5 1 (by decide) (by decide)]
  have n94 : W9 1 (4 + l) = w2 := by rw [e9, up2_s]
  have o9 : ∀ i : Nat, i ≠ 1 → i ≠ 17 → i ≠ 18 → W9 i = Vm i := fun i i1 i2 i3 => by rw [e9, up2_c _ _ i1]; exact hW5 i i2 i3
  rw [n9 l (by omega)] at er2
  have edd : d2 = d := by rw [ed2, ed, p4, ← ed0]
  have err : r2 = r := by rw [er2, er, p5, ← er0, p1]
  subst edd err
  rw [n9 (8 + l) (by omega), n9 77 (by omega)] at t77
  have hNo : ∀ k : Nat, k ≠ 4 + l → k ≠ 12 + l → k ≠ 16 + l → k ≠ 77 → (k < 24 + 7 * l ∨ 30 + 7 * l < k) → Um 1 k = Vm 1 k := fun k k0 k1 k2 k3 k4 => by rw [tof k k1 k2 k3 k4]; exact n9 k k0
  have h4 : Um 1 (4 + l) = w2 := by rw [tof _ (by omega) (by omega) (by omega) (by omega)]; exact n94
  have dr : 0 ≤ d2 ∧ d2 ≤ 9 := by
    rw [ed2]; split <;> omega
  have rr : 0 ≤ r2 ∧ r2 ≤ 9 := by
    rw [er2]; split <;> omega
  have hor := bt_or (s := Vm 1 77) (p := (l : Int)) ⟨by omega, by omega⟩ ⟨by omega, by omega⟩
  have hor4 := bt_or4 (s := Vm 1 77) (p := (l : Int)) hs77 ⟨by omega, by omega⟩
  have hb77 : ∀ q : Nat, q < 4 → q ≠ l → bt (Um 1 77) q = bt (Vm 1 77) q := fun q hq hne => by
    rw [t77]
    split
    · rw [hor.2 q ⟨by omega, by omega⟩, if_neg (by omega)]
    · rfl
  have UX : ∀ i : Nat, i ≠ 69 → i ≠ 70 → i ≠ 71 → i ≠ b + 3 + 2 * l → i ≠ b + 3 + 2 * l + 1 → Ux i = Vx i := fun i i1 i2 i3 i4 i5 => (ux i i4 i5).trans (hV4 i i1 i2 i3)
  have ub : Ux b = Vx b := UX b (by omega) (by omega) (by omega) (by omega) (by omega)
  refine ⟨⟨?_, fun q hq => ?_, ?_, ?_, ?_, ?_, ?_, ?_, ?_, ?_⟩, ⟨fun d5 => ?_, fun d6 => ?_, fun d7 => ?_⟩, ?_, ⟨hNo 78 (by omega) (by omega) (by omega) (by omega) (by omega), hNo 79 (by omega) (by omega) (by omega) (by omega) (by omega)⟩, UX, hNo⟩
  · have c0 : Ux (b + 3 + 2 * l) 0 = Vx (b + 3 + 2 * l) 0 := by rw [uo 0 (by decide) (by decide) (by decide), v4c]
    have c1 : Ux (b + 3 + 2 * l) 1 = Vx (b + 3 + 2 * l) 1 := by rw [uo 1 (by decide) (by decide) (by decide), v4c]
    have c3 : Ux (b + 3 + 2 * l) 3 = Vx (b + 3 + 2 * l) 3 := by rw [uo 3 (by decide) (by decide) (by decide), v4c]
    have c6 : Ux (b + 3 + 2 * l) 6 = Vx (b + 3 + 2 * l) 6 := by rw [uo 6 (by decide) (by decide) (by decide), v4c]
    have c7 : Ux (b + 3 + 2 * l) 7 = Vx (b + 3 + 2 * l) 7 := by rw [uo 7 (by decide) (by decide) (by decide), v4c]
    unfold RPl dedX
    rw [c0, c1, c3, c6, c7, u2, u4, u5, hNo 76 (by omega) (by omega) (by omega) (by omega) (by omega), hNo l (by omega) (by omega) (by omega) (by omega) (by omega), h4, hNo (8 + l) (by omega) (by omega) (by omega) (by omega) (by omega), t12, t16, hNo (20 + l) (by omega) (by omega) (by omega) (by omega) (by omega)]
    refine ⟨p0, p1, rfl, p3, rfl, rfl, fun j hj => ?_, p7, ?_, p9, by omega, p11, dr, rr⟩
    · cases j with
      | zero => rw [uk0]; exact t24.symm
      | succ j => rw [uk j (by omega), v4k, p6 j (by omega), show 24 + 7 * l + (j + 1) = 24 + 7 * l + j + 1 by omega, tk j (by omega), n9 _ (by omega)]
    · rw [t77, p3]
      by_cases hc : Vm 1 (8 + l) ≤ d2 ∨ Vm 1 (8 + l) ≤ r2
      · rw [if_pos hc, hor.2 l ⟨by omega, by omega⟩, if_pos rfl]
        exact ⟨fun _ => ⟨by omega, hc⟩, fun _ => rfl⟩
      · rw [if_neg hc]
        exact ⟨fun hh => absurd hh h77, fun hh => absurd hh.2 hc⟩
  · refine (hPe q hq).cg (UX _ (by omega) (by omega) (by omega) (by omega) (by omega)) (fun j hj => hNo j (by omega) (by omega) (by omega) (by omega) (by omega)) (hNo 78 (by omega) (by omega) (by omega) (by omega) (by omega))
  · rw [ub, hNo 78 (by omega) (by omega) (by omega) (by omega) (by omega)]; exact hn
  · rw [ub, hNo 79 (by omega) (by omega) (by omega) (by omega) (by omega)]; exact hd
  · rw [ub, hNo 80 (by omega) (by omega) (by omega) (by omega) (by omega)]; exact hx4
  · rw [hNo 76 (by omega) (by omega) (by omega) (by omega) (by omega)]; exact hs76
  · rw [t77]; split <;> omega
  · rw [hNo 78 (by omega) (by omega) (by omega) (by omega) (by omega)]; exact hs78
  · rw [hNo 79 (by omega) (by omega) (by omega) (by omega) (by omega)]; exact h79
  · rw [hNo 80 (by omega) (by omega) (by omega) (by omega) (by omega)]; exact h80
  · rw [ub, t1 0 (by decide), o9 0 (by decide) (by decide) (by decide)]; exact d5
  · rw [ub, t1 0 (by decide), o9 0 (by decide) (by decide) (by decide)]; exact d6
  · rw [ub, t1 0 (by decide), o9 0 (by decide) (by decide) (by decide)]; exact d7
  · exact hT.cg (fun i i1 i2 i3 => UX i (by omega) (by omega) (by omega) (by omega) (by omega)) (fun i i1 i2 => by rw [t1 i (by omega)]; exact o9 i (by omega) (by omega) (by omega))
