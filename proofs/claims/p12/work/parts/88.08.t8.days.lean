section
-- days that go by (own work)
theorem RLz.cg {b : Nat} {V V2 : Nat → Nat → Int} {N N2 : Nat → Int} (h : RLz b V N) (hV : ∀ i : Nat, b < i → i ≤ b + 18 → V2 i = V i) (hN : ∀ k : Nat, k < 79 → N2 k = N k) (h2 : V2 b 2 = V b 2) (h3 : V2 b 3 = N2 79) (h4 : V2 b 4 = N2 80) (h79 : 0 ≤ N2 79) (h80 : 0 ≤ N2 80 ∧ N2 80 ≤ 65535) : RLz b V2 N2 := by
  obtain ⟨a1, a2, a3, a4, a5, a6, a7, a8, a9, a10⟩ := h
  refine ⟨fun l hl => ?_, fun p hp => ?_, ?_, h3, h4, ?_, ?_, ?_, h79, h80⟩
  · exact (a1 l hl).cg (hV _ (by omega) (by omega)) (hV _ (by omega) (by omega)) (fun j hj => hN j (by omega)) (by rw [hN 76 (by decide)]) (by rw [hN 77 (by decide)])
  · exact (a2 p hp).cg (hV _ (by omega) (by omega)) (fun j hj => hN j (by omega)) (hN 78 (by decide))
  · rw [h2, hN 78 (by decide)]; exact a3
  · rw [hN 76 (by decide)]; exact a6
  · rw [hN 77 (by decide)]; exact a7
  · rw [hN 78 (by decide)]; exact a8
theorem d_draw {b : Nat} {a z : Int} {Vx Jx Vm Jm Ux Um : Nat → Nat → Int} {Rx Rm : Nat → Nat → Nat} (hb : isLa b) (hD : RD b Vx Vm) (hT : RTx Rx Vx Vm) (hx : f_s_draw b Vx Jx Rx (a, Ux)) (hm : f_m_draws Vm Jm Rm (z, Um)) :
    a = z ∧ RD b Ux Um ∧ RTx Rx Ux Um ∧ Um 1 78 = Vm 1 78 ∧ Um 1 79 = Vm 1 79 ∧ ∀ i : Nat, i ≠ b → Ux i = Vx i := by
  have bb := isLa_b hb
  obtain ⟨hR, d5, d6, d7⟩ := hD
  have hR0 := hR
  obtain ⟨hPl, hPe, hn, hd, hx4, hs76, hs77, hs78, h79, h80⟩ := hR
  obtain ⟨e1, e2⟩ := q_sDraw hx (by rw [hx4]; exact h80)
  obtain ⟨e3, e4⟩ := q_mDraw hm h80
  rw [hx4] at e1 e2
  subst e2 e4
  refine ⟨by rw [e1, e3], ⟨hR0.cg (fun i i1 i2 => up2_c _ _ (by omega)) (fun k hk => up2_n _ _ (Or.inr (by omega))) (up2_n _ _ (Or.inr (by decide))) ?_ ?_ ?_ ?_, ?_, ?_, ?_⟩, ?_, ?_, ?_, fun i hi => up2_c _ _ hi⟩
  · rw [up2_n _ _ (Or.inr (by decide)), up2_n _ _ (Or.inr (by decide))]; exact hd
  · rw [up2_s, up2_s]
  · rw [up2_n _ _ (Or.inr (by decide))]; exact h79
  · rw [up2_s]; exact drx_r _
  · rw [up2_n _ _ (Or.inr (by decide)), up2_n _ _ (Or.inl (by decide))]; exact d5
  · rw [up2_n _ _ (Or.inr (by decide)), up2_n _ _ (Or.inl (by decide))]; exact d6
  · rw [up2_n _ _ (Or.inr (by decide)), up2_n _ _ (Or.inl (by decide))]; exact d7
  · exact hT.cg (fun i i1 i2 i3 => up2_c _ _ (by omega)) (fun i i1 i2 => up2_c _ _ (by omega))
  · exact up2_n _ _ (Or.inr (by decide))
  · exact up2_n _ _ (Or.inr (by decide))
theorem d_lives {b l : Nat} {z y : Int} {Vx Jx Vm Jm : Nat → Nat → Int} {Rx Rm : Nat → Nat → Nat} (hl : l < 4) (hR : RLz b Vx (Vm 1)) (hx : f_s_isAlive b l Vx Jx Rx y) (hm : f_m_lives l Vm Jm Rm z) : y = z ∧ ((¬ z = 0) → bt (Vm 1 76) l = 1 ∧ ¬ bt (Vm 1 77) l = 1) := by
  have q1 := q_sAlive hx
  have q2 := q_mLives hm
  rw [Int.toNat_natCast] at q1
  obtain ⟨p0, p1, p2, p3, p4, p5, p6, p7, p8, -⟩ := hR.1 l hl
  have br := bt_r (Vm 1 76) l
  refine ⟨q1.eq q2 ⟨fun h => ⟨⟨h.1.1, h.1.2.1, by have := h.1.2.2; omega⟩, fun h2 => h.2 (p8.mp h2)⟩, fun h => ⟨⟨h.1.1, h.1.2.1, by have := h.1.2.2; omega⟩, fun h2 => h.2 (p8.mpr h2)⟩⟩, fun h => ?_⟩
  have := q2.on h
  exact ⟨this.1.2.2, this.2⟩
theorem d_gives {b p : Nat} {goal : Prop} {Jx Jm Ux Um : Nat → Nat → Int} {Rx Rm : Nat → Nat → Nat} {kX kM : (Nat → Nat → Int) → (Nat → Nat → Int) → Prop} {bX bM : (Int → (Nat → Nat → Int) → (Nat → Nat → Int) → Prop) → Int → (Nat → Nat → Int) → (Nat → Nat → Int) → Prop} (hb : isLa b) (hp : p < 8)
    (hbX : bX = fun rc (l : Int) (V : Nat → Nat → Int) => (if 4 ≤ l then kX V else calUX (fun i k : Nat => (69 ≤ i ∧ i ≤ 71) ∨ (b ≤ i ∧ i ≤ b + 18)) V (f_s_giveTo b p l V Jx Rx) fun V2 => rc (l + 1) V2))
    (hbM : bM = fun rc (l : Int) (V : Nat → Nat → Int) => (if 4 ≤ l then kM V else calR (f_m_lives l V Jm Rm) fun z4076 => fct (0 ≤ z4076 ∧ z4076 ≤ 1) <| jnk (fun (V4081 : Nat → Nat → Int) => rc (l + 1) V4081) fun jf4081 => (if z4076 = 0 then jf4081 V else rdb (V 1 ((l + 12).toNat)) fun z4084 => fct (0 ≤ z4084 ∧ z4084 ≤ 8) <| rdb (V 1 ((l + 16).toNat)) fun z4085 => fct (0 ≤ z4085 ∧ z4085 ≤ 8) <| calUM 16924998368092956267642880 V (f_m_waters p l V Jm Rm) fun V4086 => jf4081 V4086))) :
    ∀ (n m l : Nat) (Vx Vm : Nat → Nat → Int), RD b Vx Vm → RTx Rx Vx Vm → bt (Vm 1 78) p = 1 → lop2 n bX (l : Int) Vx Ux → lop2 m bM (l : Int) Vm Um →
      (∀ Vx2 Vm2 : Nat → Nat → Int, RD b Vx2 Vm2 → RTx Rx Vx2 Vm2 → Vm2 1 79 = Vm 1 79 → kX Vx2 Ux → kM Vm2 Um → goal) → goal := by
  intro n
  induction n with
  | zero => intro m l Vx Vm _ _ _ hx; exact False.elim hx
  | succ n ih =>
    intro m l Vx Vm hD hT h78 hx hm k
    cases m with
    | zero => exact False.elim hm
    | succ m =>
      rw [lop2_s hbX] at hx
      rw [lop2_s hbM] at hm
      by_cases hl : (4 : Int) ≤ l
      · rw [if_pos hl] at hx hm
        exact k Vx Vm hD hT rfl hx hm
      · rw [if_neg hl] at hx hm
        obtain ⟨V2, hg, -, hx⟩ := hx
        obtain ⟨z, hz, -, hm⟩ := hm
        have hz2 := q_mLives hz
        have hm := jnk_d hm
        by_cases g : z = 0
        · rw [if_pos g] at hm
          -- the first side gives nothing to one that is dead
          have hV : V2 = Vx := by
            unfold f_s_giveTo at hg
            obtain ⟨z1, -, -, hg⟩ := hg
            by_cases g1 : z1 = 0
            · rw [if_pos g1] at hg; exact hg
            · rw [if_neg g1] at hg
              obtain ⟨z4, h4, -, hg⟩ := hg
              have := (d_lives (by omega) hD.1 h4 hz).1
              rw [if_neg (fun hh => hh (by omega))] at hg
              exact hg
          subst hV
          refine ih m (l + 1) V2 Vm hD hT h78 ?_ ?_ k
          · rw [Int.natCast_add]; exact hx
          · rw [Int.natCast_add]; exact hm
        · rw [if_neg g] at hm
          obtain ⟨-, -, -, -, hm⟩ : ∃ (y1 : Int) (_ : True) (y2 : Int) (_ : True), calUM 16924998368092956267642880 Vm (f_m_waters p l Vm Jm Rm) (fun V4086 => lop2 m bM ((l : Int) + 1) V4086) Um := by
            obtain ⟨y1, -, -, hm⟩ := rdb_g hm
            obtain ⟨y2, -, -, hm⟩ := rdb_g hm
            exact ⟨y1, trivial, y2, trivial, hm⟩
          obtain ⟨W2, hw, -, hm⟩ := hm
          have hal := hz2.on g
          obtain ⟨r1, r2, r3, r4⟩ := d_give hb hp (by omega) hD hT h78 hal.1.2.2 hal.2 hg hw
          refine ih m (l + 1) V2 W2 r1 r2 (by rw [r3]; exact h78) ?_ ?_ (fun Vx2 Vm2 a1 a2 a3 a4 a5 => k Vx2 Vm2 a1 a2 (a3.trans r4) a4 a5)
          · rw [Int.natCast_add]; exact hx
          · rw [Int.natCast_add]; exact hm
theorem d_suns {b : Nat} {goal : Prop} {Jx Jm Ux Um : Nat → Nat → Int} {Rx Rm : Nat → Nat → Nat} {kX kM : (Nat → Nat → Int) → (Nat → Nat → Int) → Prop} {bX bM : (Int → (Nat → Nat → Int) → (Nat → Nat → Int) → Prop) → Int → (Nat → Nat → Int) → (Nat → Nat → Int) → Prop} (hb : isLa b)
    (hbX : bX = fun rc (l : Int) (V : Nat → Nat → Int) => (if 4 ≤ l then kX V else calR (f_s_isAlive b l V Jx Rx) fun z1898 => fct (0 ≤ z1898 ∧ z1898 ≤ 1) <| jnk (fun (V1911 : Nat → Nat → Int) => rc (l + 1) V1911) fun jf1911 => (if z1898 = 0 then jf1911 V else calVX (fun i k : Nat => (b ≤ i ∧ i ≤ b + 18)) V (f_s_draw b V Jx Rx) fun z1914 V1914 => jnk (fun (z1915 : Int) => rdb (V1914 b 7) fun z1917 => jnk (fun (z1918 : Int) => rdb (wr (z1917 + z1918)) fun z1920 => rdb (up2 V1914 b 7 z1920) fun V1921 => calUX (fun i k : Nat => (69 ≤ i ∧ i ≤ 71) ∨ (b ≤ i ∧ i ≤ b + 18)) V1921 (f_s_endDay b l z1915 V1921 Jx Rx) fun V1922 => jf1911 V1922) fun jf1919 => (if z1915 = 0 then jf1919 0 else jf1919 1)) fun jf1916 => (if 5 ≤ z1914 then jf1916 0 else jf1916 1))))
    (hbM : bM = fun rc (l : Int) (V : Nat → Nat → Int) => (if 4 ≤ l then kM V else calR (f_m_lives l V Jm Rm) fun z3847 => fct (0 ≤ z3847 ∧ z3847 ≤ 1) <| jnk (fun (V3862 : Nat → Nat → Int) => rc (l + 1) V3862) fun jf3862 => (if ¬ z3847 = 0 then rdb (V 1 ((l + 12).toNat)) fun z3865 => fct (0 ≤ z3865 ∧ z3865 ≤ 8) <| rdb (V 1 ((l + 16).toNat)) fun z3866 => fct (0 ≤ z3866 ∧ z3866 ≤ 8) <| calVM 36893488147419103232 V (f_m_draws V Jm Rm) fun z3867 V3867 => jnk (fun (z3868 : Int) => rdb (V3867 0 29) fun z3870 => jnk (fun (z3871 : Int) => rdb (wr (z3870 + z3871)) fun z3873 => rdb (up2 V3867 0 29 z3873) fun V3874 => calUM 7253591811175922467340288 V3874 (f_m_dries l z3868 V3874 Jm Rm) fun V3875 => jf3862 V3875) fun jf3872 => (if z3868 = 0 then jf3872 0 else jf3872 1)) fun jf3869 => (if 5 ≤ z3867 then jf3869 0 else jf3869 1) else jf3862 V))) :
    ∀ (n m l : Nat) (Vx Vm : Nat → Nat → Int), RD b Vx Vm → RTx Rx Vx Vm → lop2 n bX (l : Int) Vx Ux → lop2 m bM (l : Int) Vm Um →
      (∀ Vx2 Vm2 : Nat → Nat → Int, RD b Vx2 Vm2 → RTx Rx Vx2 Vm2 → Vm2 1 79 = Vm 1 79 → kX Vx2 Ux → kM Vm2 Um → goal) → goal := by
  have bb := isLa_b hb
  intro n
  induction n with
  | zero => intro m l Vx Vm _ _ hx; exact False.elim hx
  | succ n ih =>
    intro m l Vx Vm hD hT hx hm k
    cases m with
    | zero => exact False.elim hm
    | succ m =>
      rw [lop2_s hbX] at hx
      rw [lop2_s hbM] at hm
      by_cases hl : (4 : Int) ≤ l
      · rw [if_pos hl] at hx hm
        exact k Vx Vm hD hT rfl hx hm
      · rw [if_neg hl] at hx hm
        obtain ⟨y, hy, -, hx⟩ := hx
        obtain ⟨z, hz, -, hm⟩ := hm
        obtain ⟨eyz, hal⟩ := d_lives (by omega) hD.1 hy hz
        subst eyz
        have hx := jnk_d hx
        have hm := jnk_d hm
        by_cases g : y = 0
        · rw [if_pos g] at hx
          rw [if_neg (fun hh => hh g)] at hm
          refine ih m (l + 1) Vx Vm hD hT ?_ ?_ k
          · rw [Int.natCast_add]; exact hx
          · rw [Int.natCast_add]; exact hm
        · rw [if_neg g] at hx
          rw [if_pos g] at hm
          obtain ⟨a, V2, ha, -, hx⟩ := hx
          obtain ⟨z2, W2, hz2, hm⟩ : ∃ (z2 : Int) (W2 : Nat → Nat → Int), f_m_draws Vm Jm Rm (z2, W2) ∧ _ := by
            obtain ⟨y1, -, -, hm⟩ := rdb_g hm
            obtain ⟨y2, -, -, hm⟩ := rdb_g hm
            obtain ⟨z2, W2, hz2, -, hm⟩ := hm
            exact ⟨z2, W2, hz2, hm⟩
          obtain ⟨e1, r1, r2, r3, r4, r5⟩ := d_draw hb hD hT ha hz2
          subst e1
          have hx := jnk_if (K := _) hx
          have hm := jnk_if (K := _) hm
          generalize hs : (if 5 ≤ a then (0 : Int) else 1) = s at hx hm
          obtain ⟨z17, e17, hx⟩ := rdb_g hx
          obtain ⟨z70, e70, hm⟩ := rdb_g hm
          have hx := jnk_if hx
          have hm := jnk_if hm
          obtain ⟨z20, e20, hx⟩ := rdb_g hx
          obtain ⟨V21, e21, hx⟩ := rdb_g hx
          obtain ⟨z73, e73, hm⟩ := rdb_g hm
          obtain ⟨W74, e74, hm⟩ := rdb_g hm
          obtain ⟨V22, hV, -, hx⟩ := hx
          obtain ⟨W75, hW, -, hm⟩ := hm
          obtain ⟨hR, d5, d6, d7⟩ := r1
          have ez : z20 = z73 := by rw [← e20, ← e73, ← e17, ← e70, d7]
          have D2 : RD b V21 W74 := by
            subst e21 e74
            obtain ⟨hPl, hPe, hn, hd, hx4, hs76, hs77, hs78, h79, h80⟩ := hR
            refine ⟨RLz.cg ⟨hPl, hPe, hn, hd, hx4, hs76, hs77, hs78, h79, h80⟩ (fun i i1 i2 => up2_c _ _ (by omega)) (fun k hk => up2_n _ _ (Or.inl (by decide))) (up2_n _ _ (Or.inr (by decide))) ?_ ?_ ?_ ?_, ?_, ?_, ?_⟩
            · rw [up2_n _ _ (Or.inr (by decide)), up2_n _ _ (Or.inl (by decide))]; exact hd
            · rw [up2_n _ _ (Or.inr (by decide)), up2_n _ _ (Or.inl (by decide))]; exact hx4
            · rw [up2_n _ _ (Or.inl (by decide))]; exact h79
            · rw [up2_n _ _ (Or.inl (by decide))]; exact h80
            · rw [up2_n _ _ (Or.inr (by decide)), up2_n _ _ (Or.inr (by decide))]; exact d5
            · rw [up2_n _ _ (Or.inr (by decide)), up2_n _ _ (Or.inr (by decide))]; exact d6
            · rw [up2_s, up2_s]; exact ez
          have T2 : RTx Rx V21 W74 := by
            subst e21 e74
            exact r2.cg (fun i i1 i2 i3 => up2_c _ _ (by omega)) (fun i i1 i2 => up2_c _ _ (by omega))
          have w1 : W74 1 = W2 1 := by rw [← e74, up2_c _ _ (by decide)]
          have hal2 := hal g
          -- told and dead are as they were ahead of the draw
          obtain ⟨q1, q2⟩ := q_mDraw hz2 hD.1.2.2.2.2.2.2.2.2.2
          have k76 : W2 1 76 = Vm 1 76 := by rw [q2, up2_n _ _ (Or.inr (by decide))]
          have k77 : W2 1 77 = Vm 1 77 := by rw [q2, up2_n _ _ (Or.inr (by decide))]
          obtain ⟨t1, t2, t3, t4⟩ := d_end hb (by omega) D2 T2 (by rw [w1, k76]; exact hal2.1) (by rw [w1, k77]; exact hal2.2) hV hW
          refine ih m (l + 1) V22 W75 t1 t2 ?_ ?_ (fun Vx2 Vm2 a1 a2 a3 a4 a5 => k Vx2 Vm2 a1 a2 (by rw [a3, t4, w1]; exact r4) a4 a5)
          · rw [Int.natCast_add]; exact hx
          · rw [Int.natCast_add]; exact hm
theorem d_day {b : Nat} {Vx Jx Vm Jm Ux Um : Nat → Nat → Int} {Rx Rm : Nat → Nat → Nat} (hb : isLa b) (hD : RD b Vx Vm) (hT : RTx Rx Vx Vm) (h79 : Vm 1 79 ≤ 20000) (hx : f_s_oneDay b Vx Jx Rx Ux) (hm : f_m_dayGoes Vm Jm Rm Um) : RD b Ux Um ∧ RTx Rx Ux Um ∧ Um 1 79 = Vm 1 79 + 1 := by
  have bb := isLa_b hb
  unfold f_s_oneDay at hx
  unfold f_m_dayGoes at hm
  obtain ⟨bX, hbX, hx⟩ := lop2_g hx
  obtain ⟨bM, hbM, hm⟩ := lop2_g hm
  have key : ∀ (n m p : Nat) (V W : Nat → Nat → Int), RD b V W → RTx Rx V W → W 1 79 = Vm 1 79 → lop2 n bX (p : Int) V Ux → lop2 m bM (p : Int) W Um → RD b Ux Um ∧ RTx Rx Ux Um ∧ Um 1 79 = Vm 1 79 + 1 := by
    intro n
    induction n with
    | zero => intro m p V W _ _ _ hx; exact False.elim hx
    | succ n ih =>
      intro m p V W hD hT hd hx hm
      cases m with
      | zero => exact False.elim hm
      | succ m =>
        rw [lop2_s hbX] at hx
        rw [lop2_s hbM] at hm
        by_cases hp : (8 : Int) ≤ p
        · rw [if_pos hp] at hx hm
          refine d_suns (kX := fun V1808 => rdb (V1808 b 3) fun z1895 => rdb (wr (z1895 + 1)) fun z1896 => rdb (up2 V1808 b 3 z1896) fun V1897 => rtn V1897) (kM := fun V3745 => rdb (V3745 1 79) fun z3844 => rdb (wr (z3844 + 1)) fun z3845 => rdb (up2 V3745 1 79 z3845) fun V3846 => rtn V3846) hb rfl rfl 6 6 0 V W hD hT hx hm (fun Vx2 Vm2 a1 a2 a3 a4 a5 => ?_)
          simp only [rdb, rtn] at a4 a5
          obtain ⟨hR, d5, d6, d7⟩ := a1
          have hR0 := hR
          obtain ⟨hPl, hPe, hn, hdd, hx4, hs76, hs77, hs78, h79b, h80⟩ := hR
          rw [hdd] at a4
          have e79 : wr (Vm2 1 79 + 1) = Vm 1 79 + 1 := by rw [wr_id ⟨by omega, by omega⟩]; omega
          rw [e79] at a4 a5
          subst a4 a5
          refine ⟨⟨hR0.cg (fun i i1 i2 => up2_c _ _ (by omega)) (fun k hk => up2_n _ _ (Or.inr (by omega))) (up2_n _ _ (Or.inr (by decide))) ?_ ?_ ?_ ?_, ?_, ?_, ?_⟩, ?_, up2_s _ _ _ _⟩
          · rw [up2_s, up2_s]
          · rw [up2_n _ _ (Or.inr (by decide)), up2_n _ _ (Or.inr (by decide))]; exact hx4
          · rw [up2_s]; omega
          · rw [up2_n _ _ (Or.inr (by decide))]; exact h80
          · rw [up2_n _ _ (Or.inr (by decide)), up2_n _ _ (Or.inl (by decide))]; exact d5
          · rw [up2_n _ _ (Or.inr (by decide)), up2_n _ _ (Or.inl (by decide))]; exact d6
          · rw [up2_n _ _ (Or.inr (by decide)), up2_n _ _ (Or.inl (by decide))]; exact d7
          · exact a2.cg (fun i i1 i2 i3 => up2_c _ _ (by omega)) (fun i i1 i2 => up2_c _ _ (by omega))
        · rw [if_neg hp] at hx hm
          rw [Nat.one_mul, Int.toNat_natCast] at hx
          obtain ⟨c, ec, hx⟩ := rdb_g hx
          subst ec
          obtain ⟨t, et, -, hx⟩ := rdb_g hx
          obtain ⟨z, hz, -, hm⟩ := hm
          have hz := q_mPerson hz
          obtain ⟨p0, p1, p2, p3⟩ := hD.1.2.1 p (by omega)
          have br := bt_r (W 1 78) p
          have etz : t = z := by
            unfold Sq at hz
            omega
          subst etz
          have hx := jnk_d hx
          have hm := jnk_d hm
          by_cases g : t = 0
          · rw [if_pos g] at hx hm
            refine ih m (p + 1) V W hD hT hd ?_ ?_
            · rw [Int.natCast_add]; exact hx
            · rw [Int.natCast_add]; exact hm
          · rw [if_neg g] at hx hm
            obtain ⟨a, V2, ha, -, hx⟩ := hx
            obtain ⟨z2, W2, hz2, -, hm⟩ := hm
            obtain ⟨e1, r1, r2, r3, r4, r5⟩ := d_draw hb hD hT ha hz2
            subst e1
            obtain ⟨y52, e52, hx⟩ := rdb_g hx
            obtain ⟨z86, e86, hm⟩ := rdb_g hm
            rw [show ((p : Int) + 52).toNat = 52 + p by omega] at e86
            have ee : y52 = z86 := by rw [← e52, ← e86]; exact (r1.1.2.1 p (by omega)).2.1
            subst ee
            by_cases g2 : y52 ≤ a
            · rw [if_pos g2] at hx
              rw [if_neg (by omega)] at hm
              refine ih m (p + 1) V2 W2 r1 r2 (by rw [r4]; exact hd) ?_ ?_
              · rw [Int.natCast_add]; exact hx
              · rw [Int.natCast_add]; exact hm
            · rw [if_neg g2] at hx
              rw [if_pos (by omega)] at hm
              have h78 : bt (W2 1 78) p = 1 := by rw [r3]; omega
              refine d_gives (kX := fun V1968 => lop2 n bX ((p : Int) + 1) V1968) (kM := fun V4062 => lop2 m bM ((p : Int) + 1) V4062) hb (by omega) rfl rfl 6 6 0 V2 W2 r1 r2 h78 hx hm (fun Vx2 Vm2 a1 a2 a3 a4 a5 => ih m (p + 1) Vx2 Vm2 a1 a2 (by rw [a3, r4]; exact hd) ?_ ?_)
              · rw [Int.natCast_add]; exact a4
              · rw [Int.natCast_add]; exact a5
  exact key 10 10 0 Vx Vm hD hT rfl hx hm
theorem d_days {b : Nat} {x : Int} {Vx Jx Vm Jm Ux Um : Nat → Nat → Int} {Rx Rm : Nat → Nat → Nat} (hb : isLa b) (hR : RLz b Vx (Vm 1)) (hT : RTx Rx Vx Vm) (h79 : Vm 1 79 ≤ 9999) (hx : f_s_goBy b x Vx Jx Rx Ux) (hm : f_m_daysGo x Vm Jm Rm Um) : RD b Ux Um ∧ RTx Rx Ux Um ∧ Um 1 79 ≤ 9999 := by
  have bb := isLa_b hb
  unfold f_s_goBy at hx
  unfold f_m_daysGo at hm
  obtain ⟨V1, e1, hx⟩ := rdb_g hx
  obtain ⟨V2, e2, hx⟩ := rdb_g hx
  obtain ⟨V3, e3, hx⟩ := rdb_g hx
  obtain ⟨W1, f1, hm⟩ := rdb_g hm
  obtain ⟨W2, f2, hm⟩ := rdb_g hm
  obtain ⟨W3, f3, hm⟩ := rdb_g hm
  -- nobody has given yet
  obtain ⟨bZ, hbZ, hm⟩ := lop2_g hm
  have zero : ∀ (n p : Nat) (W : Nat → Nat → Int), (∀ i : Nat, i ≠ 19 → W i = W3 i) → lop2 n bZ (p : Int) W Um → ∃ W4 : Nat → Nat → Int, (∀ i : Nat, i ≠ 19 → W4 i = W3 i) ∧ lop2 (2147483649) (fun rc153 (z152 : Int) (V153 : Nat → Nat → Int) => (if x ≤ z152 then rtn V153 else rdb (V153 1 79) fun z159 => (if 9999 ≤ z159 then rtn V153 else calUM 16924998368092956804513792 V153 (f_m_dayGoes V153 Jm Rm) fun V161 => rc153 (z152 + 1) V161))) 0 W4 Um := by
    intro n
    induction n with
    | zero => intro p W _ h; exact False.elim h
    | succ n ih =>
      intro p W hW h
      rw [lop2_s hbZ] at h
      by_cases hp : (8 : Int) ≤ p
      · rw [if_pos hp] at h
        exact ⟨W, hW, h⟩
      · rw [if_neg hp] at h
        refine ih (p + 1) _ (fun i hi => ?_) (by rw [Int.natCast_add]; exact h)
        rw [up2_c _ _ hi]; exact hW i hi
  obtain ⟨W4, hW4, hm⟩ := zero 10 0 W3 (fun _ _ => rfl) hm
  obtain ⟨bX, hbX, hx⟩ := lop2_g hx
  obtain ⟨bM, hbM, hm⟩ := lop2_g hm
  have hV3 : ∀ i : Nat, i ≠ b → V3 i = Vx i := fun i hi => by rw [← e3, up2_c _ _ hi, ← e2, up2_c _ _ hi, ← e1, up2_c _ _ hi]
  have hV3b : V3 b = up1 (up1 (up1 (Vx b) 5 0) 6 0) 7 0 := by rw [← e3, up2_row, ← e2, up2_row, ← e1, up2_row]
  have hW3 : ∀ i : Nat, i ≠ 0 → W3 i = Vm i := fun i hi => by rw [← f3, up2_c _ _ hi, ← f2, up2_c _ _ hi, ← f1, up2_c _ _ hi]
  have hW30 : W3 0 = up1 (up1 (up1 (Vm 0) 27 0) 28 0) 29 0 := by rw [← f3, up2_row, ← f2, up2_row, ← f1, up2_row]
  have k1 : W4 1 = Vm 1 := by rw [hW4 1 (by decide), hW3 1 (by decide)]
  have D0 : RD b V3 W4 := by
    refine ⟨hR.cg (fun i i1 i2 => hV3 i (by omega)) (fun k hk => by rw [k1]) (by rw [hV3b]; rfl) ?_ ?_ ?_ ?_, ?_, ?_, ?_⟩
    · rw [hV3b, k1]; exact hR.2.2.2.1
    · rw [hV3b, k1]; exact hR.2.2.2.2.1
    · rw [k1]; exact hR.2.2.2.2.2.2.2.2.1
    · rw [k1]; exact hR.2.2.2.2.2.2.2.2.2
    · rw [hV3b, hW4 0 (by decide), hW30]; rfl
    · rw [hV3b, hW4 0 (by decide), hW30]; rfl
    · rw [hV3b, hW4 0 (by decide), hW30]; rfl
  have T0 : RTx Rx V3 W4 := hT.cg (fun i i1 i2 i3 => hV3 i (by omega)) (fun i i1 i2 => by rw [hW4 i (by omega), hW3 i (by omega)])
  have key : ∀ (n m : Nat) (z : Int) (V W : Nat → Nat → Int), RD b V W → RTx Rx V W → W 1 79 ≤ 9999 → lop2 n bX z V Ux → lop2 m bM z W Um → RD b Ux Um ∧ RTx Rx Ux Um ∧ Um 1 79 ≤ 9999 := by
    intro n
    induction n with
    | zero => intro m z V W _ _ _ hx; exact False.elim hx
    | succ n ih =>
      intro m z V W hD hT hd hx hm
      cases m with
      | zero => exact False.elim hm
      | succ m =>
        rw [lop2_s hbX] at hx
        rw [lop2_s hbM] at hm
        by_cases g : x ≤ z
        · rw [if_pos g] at hx hm
          have hx : Ux = V := hx
          have hm : Um = W := hm
          subst hx hm
          exact ⟨hD, hT, hd⟩
        · rw [if_neg g] at hx hm
          obtain ⟨y, ey, hx⟩ := rdb_g hx
          obtain ⟨w, ew, hm⟩ := rdb_g hm
          have eyw : y = w := by rw [← ey, ← ew]; exact hD.1.2.2.2.1
          subst eyw
          by_cases g2 : 9999 ≤ y
          · rw [if_pos g2] at hx hm
            have hx : Ux = V := hx
            have hm : Um = W := hm
            subst hx hm
            exact ⟨hD, hT, hd⟩
          · rw [if_neg g2] at hx hm
            obtain ⟨V5, hV5, -, hx⟩ := hx
            obtain ⟨W5, hW5, -, hm⟩ := hm
            obtain ⟨r1, r2, r3⟩ := d_day hb hD hT (by omega) hV5 hW5
            exact ih m (z + 1) V5 W5 r1 r2 (by omega) hx hm
  exact key _ _ 0 V3 W4 D0 T0 (by rw [k1]; exact h79) hx hm
end
section
-- reading: signs, on both sides (own work)
/-- places and the tape's bytes are the same -/
def PP (V W : Nat → Nat → Int) : Prop := V 72 2 = W 0 5 ∧ V 72 3 = W 0 6 ∧ (0 ≤ W 0 5 ∧ W 0 5 ≤ W 0 6 ∧ W 0 6 ≤ 200 ∧ W 0 6 ≤ V 58 1) ∧ ∀ k : Nat, (k : Int) < W 0 6 → V 59 k = iAnd (W 4 k) 255
/-- the sign that is read next; -1 at the end -/
def sgnZ (W : Nat → Nat → Int) : Int := if W 0 6 ≤ W 0 5 then -1 else iAnd (W 4 (W 0 5).toNat) 255
theorem sgn_r (W : Nat → Nat → Int) : -1 ≤ sgnZ W ∧ sgnZ W ≤ 255 := by
  unfold sgnZ
  split
  · omega
  · have := iAnd_leB (W 4 (W 0 5).toNat) (q := 255) (B := 255) (by decide)
    omega
theorem sgn_lt {W : Nat → Nat → Int} (h : 0 ≤ sgnZ W) : W 0 5 < W 0 6 := by
  unfold sgnZ at h
  split at h <;> omega
theorem q_here {r : Int} {W J : Nat → Nat → Int} {R : Nat → Nat → Nat} (h : f_m_here W J R r) : r = sgnZ W := by
  simp only [f_m_here, rdb] at h
  obtain ⟨-, -, h⟩ := h
  unfold sgnZ
  by_cases g : W 0 6 ≤ W 0 5
  · rw [if_pos g] at h ⊢; exact h
  · rw [if_neg g] at h ⊢
    obtain ⟨-, -, h⟩ := h
    exact h
theorem q_at {x r : Int} {V J : Nat → Nat → Int} {R : Nat → Nat → Nat} (h : f_s_at x V J R r) (hx : 0 ≤ x ∧ x < V 58 1) : r = V 59 x.toNat := by
  simp only [f_s_at, rdb] at h
  rw [if_neg (by omega)] at h
  obtain ⟨-, h⟩ := h
  rw [if_neg (by omega)] at h
  exact h
theorem q_peek {r : Int} {V W J : Nat → Nat → Int} {R : Nat → Nat → Nat} (hP : PP V W) (h : f_r_peek V J R r) : r = sgnZ W := by
  obtain ⟨p1, p2, p3, p4⟩ := hP
  simp only [f_r_peek, rdb] at h
  unfold sgnZ
  rw [p1, p2] at h
  by_cases g : W 0 6 ≤ W 0 5
  · rw [if_pos g] at h ⊢; exact h
  · rw [if_neg g] at h ⊢
    obtain ⟨z, hz, h⟩ := h
    have h : r = z := h
    rw [h, q_at hz ⟨by omega, by omega⟩, p4 _ (by omega)]
/-- a fault: its number and its place -/
theorem q_fail {x a : Int} {V J U : Nat → Nat → Int} {R : Nat → Nat → Nat} (h : f_r_fail x V J R (a, U)) (hx : 0 ≤ x ∧ x ≤ 9) (h2 : 0 ≤ V 72 2 ∧ V 72 2 ≤ 220) : a = 0 ∧ U = up2 V 72 5 (-1000 * x - V 72 2) := by
  simp only [f_r_fail, rdb, rtn, Prod.mk.injEq] at h
  rw [wr_id (z := -1000 * x) ⟨by omega, by omega⟩, wr_id ⟨by omega, by omega⟩] at h
  exact h
theorem q_wrong {x y b : Int} {W J X : Nat → Nat → Int} {R : Nat → Nat → Nat} (h : f_m_wrongAt x y W J R (b, X)) (hx : 0 ≤ x ∧ x ≤ 9) (h2 : 0 ≤ y ∧ y ≤ 220) : b = 0 ∧ X = up2 W 0 7 (-1000 * x - y) := by
  simp only [f_m_wrongAt, rdb, rtn, Prod.mk.injEq] at h
  rw [wr_id (z := -1000 * x) ⟨by omega, by omega⟩, wr_id ⟨by omega, by omega⟩] at h
  exact h
theorem q_takes {c b : Int} {W J X : Nat → Nat → Int} {R : Nat → Nat → Nat} (h : f_m_takes c W J R (b, X)) : (sgnZ W = c ∧ b = 1 ∧ X = up2 W 0 5 (W 0 5 + 1)) ∨ (¬ sgnZ W = c ∧ b = 0 ∧ X = up2 W 0 7 (-1000 - W 0 5)) := by
  simp only [f_m_takes, rdb] at h
  obtain ⟨hp, -, z, hz, -, h⟩ := h
  have hz := q_here hz
  subst hz
  by_cases g : sgnZ W = c
  · rw [if_pos g] at h
    simp only [rtn, Prod.mk.injEq] at h
    exact Or.inl ⟨g, h.1, h.2⟩
  · rw [if_neg g] at h
    obtain ⟨y, Y, hy, -, -, h⟩ := h
    simp only [rtn, Prod.mk.injEq] at h
    obtain ⟨k1, k2⟩ := q_wrong hy (by decide) hp
    refine Or.inr ⟨g, h.1.trans k1, ?_⟩
    rw [h.2, k2]
    congr 1
theorem q_sign {c a : Int} {V W J U : Nat → Nat → Int} {R : Nat → Nat → Nat} (hP : PP V W) (h : f_r_sign c V J R (a, U)) : (sgnZ W = c ∧ a = 1 ∧ U = up2 V 72 2 (W 0 5 + 1)) ∨ (¬ sgnZ W = c ∧ a = 0 ∧ U = up2 V 72 5 (-1000 - W 0 5)) := by
  simp only [f_r_sign, rdb] at h
  obtain ⟨z, hz, h⟩ := h
  have hz := q_peek hP hz
  subst hz
  obtain ⟨p1, p2, p3, p4⟩ := hP
  by_cases g : sgnZ W = c
  · rw [if_pos g, p1, wr_id ⟨by omega, by omega⟩] at h
    simp only [rtn, Prod.mk.injEq] at h
    exact Or.inl ⟨g, h.1, h.2⟩
  · rw [if_neg g] at h
    obtain ⟨y, Y, hy, -, -, h⟩ := h
    simp only [rtn, Prod.mk.injEq] at h
    obtain ⟨k1, k2⟩ := q_fail hy (by decide) (by omega)
    refine Or.inr ⟨g, h.1.trans k1, ?_⟩
    rw [h.2, k2, p1]
    congr 1
theorem iShl_4 : ∀ x : Nat, x < 100000 → iShl (x : Int) 4 = ((16 * x : Nat) : Int) := by
  intro x hx
  have e : iShl (x : Int) 4 = ((Int32.ofInt (x : Int)).toBitVec <<< ((Int32.ofInt 4 &&& 31).toBitVec.smod 32)).toInt := rfl
  have e2 : (Int32.ofInt (x : Int)).toBitVec.toNat = x := by
    have h3 : (Int32.ofInt (x : Int)).toBitVec.toInt = x := xi_toInt (a := (x : Int)) ⟨by omega, by omega⟩
    rw [BitVec.toInt_eq_toNat_cond] at h3
    have h4 := (Int32.ofInt (x : Int)).toBitVec.isLt
    split at h3 <;> omega
  rw [e, BitVec.shiftLeft_eq', BitVec.toInt_shiftLeft, show ((Int32.ofInt 4 &&& 31).toBitVec.smod 32).toNat = 4 by decide, e2, Nat.shiftLeft_eq]
  rw [Int.bmod_eq_of_le (by omega) (by omega)]
  omega
theorem iOr_n {a b : Nat} (ha : a < 2147483648) (hb : b < 2147483648) : iOr (a : Int) (b : Int) = ((a ||| b : Nat) : Int) := by
  have e : ∀ q : Nat, q < 2147483648 → (Int32.ofInt (q : Int)).toBitVec.toNat = q := fun q hq => by
    have h3 : (Int32.ofInt (q : Int)).toBitVec.toInt = q := xi_toInt (a := (q : Int)) ⟨by omega, by omega⟩
    rw [BitVec.toInt_eq_toNat_cond] at h3
    have h4 := (Int32.ofInt (q : Int)).toBitVec.isLt
    split at h3 <;> omega
  have e2 : (Int32.ofInt (a : Int) ||| Int32.ofInt (b : Int)).toBitVec.toNat = a ||| b := by
    rw [Int32.toBitVec_or, BitVec.toNat_or, e a ha, e b hb]
  have h5 : a ||| b < 2 ^ 31 := Nat.or_lt_two_pow (by omega) (by omega)
  show (Int32.ofInt (a : Int) ||| Int32.ofInt (b : Int)).toBitVec.toInt = _
  rw [BitVec.toInt_eq_toNat_cond, if_pos (by omega), e2]
/-- a step of the first side: its kind, and sixteen times its worth -/
theorem stp_or {op v : Int} (ho : 0 ≤ op ∧ op ≤ 12) (hv : 0 ≤ v ∧ v < 100000) : iOr op (iShl v 4) = op + 16 * v := by
  obtain ⟨o, rfl⟩ : ∃ o : Nat, op = o := ⟨op.toNat, by omega⟩
  obtain ⟨x, rfl⟩ : ∃ x : Nat, v = x := ⟨v.toNat, by omega⟩
  rw [iShl_4 x (by omega), iOr_n (by omega) (by omega)]
  have h : 16 * x ||| o = 2 ^ 4 * x + o := by
    rw [show 16 * x = 2 ^ 4 * x from rfl]
    exact (Nat.two_pow_add_eq_or_of_lt (by omega) x).symm
  rw [Nat.or_comm, h]
  omega
theorem q_put {t : Nat} {op v : Int} {V J U : Nat → Nat → Int} {R : Nat → Nat → Nat} (h : f_r_put t op v V J R U) (ho : 0 ≤ op ∧ op ≤ 12) (hv : 0 ≤ v ∧ v < 100000) (hl : 0 ≤ V t 1 ∧ V t 1 < 200) : U = up2 (up2 V (t + 1) (V t 1).toNat (op + 16 * v)) t 1 (V t 1 + 1) := by
  simp only [f_r_put, rdb] at h
  obtain ⟨-, h⟩ := h
  rw [if_neg (by omega), stp_or ho hv] at h
  exact h
theorem q_notes {op v : Int} {W J X : Nat → Nat → Int} {R : Nat → Nat → Nat} (h : f_m_notes op v W J R X) : X = up2 (up2 W 5 (W 0 10).toNat (1048576 * op + v)) 0 10 (W 0 10 + 1) := by
  simp only [f_m_notes, rdb] at h
  obtain ⟨-, h⟩ := h
  exact h
theorem q_stepOf {x r : Int} (h : f_r_stepOf x r) : (x = 43 ∧ r = 2) ∨ (x = 45 ∧ r = 3) ∨ (x = 42 ∧ r = 4) ∨ (x = 47 ∧ r = 5) ∨ (x = 37 ∧ r = 6) ∨ (x = 60 ∧ r = 7) ∨ (x = 62 ∧ r = 8) ∨ (x = 61 ∧ r = 9) ∨ (r = -1 ∧ ¬ x = 43 ∧ ¬ x = 45 ∧ ¬ x = 42 ∧ ¬ x = 47 ∧ ¬ x = 37 ∧ ¬ x = 60 ∧ ¬ x = 62 ∧ ¬ x = 61) := by
  unfold f_r_stepOf at h
  by_cases g37 : x = 37
  · rw [if_pos g37] at h; have h : r = 6 := h; omega
  rw [if_neg g37] at h
  by_cases g38 : x = 38
  · rw [if_pos g38] at h; have h : r = -1 := h; omega
  rw [if_neg g38] at h
  by_cases g39 : x = 39
  · rw [if_pos g39] at h; have h : r = -1 := h; omega
  rw [if_neg g39] at h
  by_cases g40 : x = 40
  · rw [if_pos g40] at h; have h : r = -1 := h; omega
  rw [if_neg g40] at h
  by_cases g41 : x = 41
  · rw [if_pos g41] at h; have h : r = -1 := h; omega
  rw [if_neg g41] at h
  by_cases g42 : x = 42
  · rw [if_pos g42] at h; have h : r = 4 := h; omega
  rw [if_neg g42] at h
  by_cases g43 : x = 43
  · rw [if_pos g43] at h; have h : r = 2 := h; omega
  rw [if_neg g43] at h
  by_cases g44 : x = 44
  · rw [if_pos g44] at h; have h : r = -1 := h; omega
  rw [if_neg g44] at h
  by_cases g45 : x = 45
  · rw [if_pos g45] at h; have h : r = 3 := h; omega
  rw [if_neg g45] at h
  by_cases g46 : x = 46
  · rw [if_pos g46] at h; have h : r = -1 := h; omega
  rw [if_neg g46] at h
  by_cases g47 : x = 47
  · rw [if_pos g47] at h; have h : r = 5 := h; omega
  rw [if_neg g47] at h
  by_cases g48 : x = 48
  · rw [if_pos g48] at h; have h : r = -1 := h; omega
  rw [if_neg g48] at h
  by_cases g49 : x = 49
  · rw [if_pos g49] at h; have h : r = -1 := h; omega
  rw [if_neg g49] at h
  by_cases g50 : x = 50
  · rw [if_pos g50] at h; have h : r = -1 := h; omega
  rw [if_neg g50] at h
  by_cases g51 : x = 51
  · rw [if_pos g51] at h; have h : r = -1 := h; omega
  rw [if_neg g51] at h
  by_cases g52 : x = 52
  · rw [if_pos g52] at h; have h : r = -1 := h; omega
  rw [if_neg g52] at h
  by_cases g53 : x = 53
  · rw [if_pos g53] at h; have h : r = -1 := h; omega
  rw [if_neg g53] at h
  by_cases g54 : x = 54
  · rw [if_pos g54] at h; have h : r = -1 := h; omega
  rw [if_neg g54] at h
  by_cases g55 : x = 55
  · rw [if_pos g55] at h; have h : r = -1 := h; omega
  rw [if_neg g55] at h
  by_cases g56 : x = 56
  · rw [if_pos g56] at h; have h : r = -1 := h; omega
  rw [if_neg g56] at h
  by_cases g57 : x = 57
  · rw [if_pos g57] at h; have h : r = -1 := h; omega
  rw [if_neg g57] at h
  by_cases g58 : x = 58
  · rw [if_pos g58] at h; have h : r = -1 := h; omega
  rw [if_neg g58] at h
  by_cases g59 : x = 59
  · rw [if_pos g59] at h; have h : r = -1 := h; omega
  rw [if_neg g59] at h
  by_cases g60 : x = 60
  · rw [if_pos g60] at h; have h : r = 7 := h; omega
  rw [if_neg g60] at h
  by_cases g61 : x = 61
  · rw [if_pos g61] at h; have h : r = 9 := h; omega
  rw [if_neg g61] at h
  by_cases g62 : x = 62
  · rw [if_pos g62] at h; have h : r = 8 := h; omega
  rw [if_neg g62] at h
  have h : r = -1 := h
  omega
theorem q_sumSign {x r : Int} (h : f_m_sumSign x r) : (x = 43 ∧ r = 2) ∨ (x = 45 ∧ r = 3) ∨ (x = 42 ∧ r = 4) ∨ (x = 47 ∧ r = 5) ∨ (x = 37 ∧ r = 6) ∨ (r = -1 ∧ ¬ x = 43 ∧ ¬ x = 45 ∧ ¬ x = 42 ∧ ¬ x = 47 ∧ ¬ x = 37) := by
  simp only [f_m_sumSign, rtn, if_r] at h
  omega
/-- the letters: the reference's number, the sign -/
def ltr (z c : Int) : Prop := (z = 0 ∧ c = 100) ∨ (z = 1 ∧ c = 119) ∨ (z = 2 ∧ c = 108) ∨ (z = 3 ∧ c = 111) ∨ (z = 4 ∧ c = 102) ∨ (z = 5 ∧ c = 115) ∨ (z = 6 ∧ c = 121) ∨ (z = 7 ∧ c = 122) ∨ (z = 8 ∧ c = 112) ∨ (z = 9 ∧ c = 116) ∨ (z = 10 ∧ c = 110) ∨ (z = 11 ∧ c = 97) ∨ (z = 12 ∧ c = 113)
def isL (c : Int) : Prop := c = 100 ∨ c = 119 ∨ c = 108 ∨ c = 111 ∨ c = 102 ∨ c = 115 ∨ c = 121 ∨ c = 122 ∨ c = 112 ∨ c = 116 ∨ c = 110 ∨ c = 97 ∨ c = 113
theorem q_factOf {x r : Int} (h : f_m_factOf x r) : (ltr r x ∧ isL x) ∨ (r = -1 ∧ ¬ isL x) := by
  unfold f_m_factOf at h
  by_cases g97 : x = 97
  · rw [if_pos g97] at h; have h : r = 11 := h; subst h; subst g97; exact Or.inl ⟨by unfold ltr; decide, by unfold isL; decide⟩
  rw [if_neg g97] at h
  by_cases g98 : x = 98
  · rw [if_pos g98] at h; have h : r = -1 := h; subst g98; exact Or.inr ⟨h, by unfold isL; decide⟩
  rw [if_neg g98] at h
  by_cases g99 : x = 99
  · rw [if_pos g99] at h; have h : r = -1 := h; subst g99; exact Or.inr ⟨h, by unfold isL; decide⟩
  rw [if_neg g99] at h
  by_cases g100 : x = 100
  · rw [if_pos g100] at h; have h : r = 0 := h; subst h; subst g100; exact Or.inl ⟨by unfold ltr; decide, by unfold isL; decide⟩
  rw [if_neg g100] at h
  by_cases g101 : x = 101
  · rw [if_pos g101] at h; have h : r = -1 := h; subst g101; exact Or.inr ⟨h, by unfold isL; decide⟩
  rw [if_neg g101] at h
  by_cases g102 : x = 102
  · rw [if_pos g102] at h; have h : r = 4 := h; subst h; subst g102; exact Or.inl ⟨by unfold ltr; decide, by unfold isL; decide⟩
  rw [if_neg g102] at h
  by_cases g103 : x = 103
  · rw [if_pos g103] at h; have h : r = -1 := h; subst g103; exact Or.inr ⟨h, by unfold isL; decide⟩
  rw [if_neg g103] at h
  by_cases g104 : x = 104
  · rw [if_pos g104] at h; have h : r = -1 := h; subst g104; exact Or.inr ⟨h, by unfold isL; decide⟩
  rw [if_neg g104] at h
  by_cases g105 : x = 105
  · rw [if_pos g105] at h; have h : r = -1 := h; subst g105; exact Or.inr ⟨h, by unfold isL; decide⟩
  rw [if_neg g105] at h
  by_cases g106 : x = 106
  · rw [if_pos g106] at h; have h : r = -1 := h; subst g106; exact Or.inr ⟨h, by unfold isL; decide⟩
  rw [if_neg g106] at h
  by_cases g107 : x = 107
  · rw [if_pos g107] at h; have h : r = -1 := h; subst g107; exact Or.inr ⟨h, by unfold isL; decide⟩
  rw [if_neg g107] at h
  by_cases g108 : x = 108
  · rw [if_pos g108] at h; have h : r = 2 := h; subst h; subst g108; exact Or.inl ⟨by unfold ltr; decide, by unfold isL; decide⟩
  rw [if_neg g108] at h
  by_cases g109 : x = 109
  · rw [if_pos g109] at h; have h : r = -1 := h; subst g109; exact Or.inr ⟨h, by unfold isL; decide⟩
  rw [if_neg g109] at h
  by_cases g110 : x = 110
  · rw [if_pos g110] at h; have h : r = 10 := h; subst h; subst g110; exact Or.inl ⟨by unfold ltr; decide, by unfold isL; decide⟩
  rw [if_neg g110] at h
  by_cases g111 : x = 111
  · rw [if_pos g111] at h; have h : r = 3 := h; subst h; subst g111; exact Or.inl ⟨by unfold ltr; decide, by unfold isL; decide⟩
  rw [if_neg g111] at h
  by_cases g112 : x = 112
  · rw [if_pos g112] at h; have h : r = 8 := h; subst h; subst g112; exact Or.inl ⟨by unfold ltr; decide, by unfold isL; decide⟩
  rw [if_neg g112] at h
  by_cases g113 : x = 113
  · rw [if_pos g113] at h; have h : r = 12 := h; subst h; subst g113; exact Or.inl ⟨by unfold ltr; decide, by unfold isL; decide⟩
  rw [if_neg g113] at h
  by_cases g114 : x = 114
  · rw [if_pos g114] at h; have h : r = -1 := h; subst g114; exact Or.inr ⟨h, by unfold isL; decide⟩
  rw [if_neg g114] at h
  by_cases g115 : x = 115
  · rw [if_pos g115] at h; have h : r = 5 := h; subst h; subst g115; exact Or.inl ⟨by unfold ltr; decide, by unfold isL; decide⟩
  rw [if_neg g115] at h
  by_cases g116 : x = 116
  · rw [if_pos g116] at h; have h : r = 9 := h; subst h; subst g116; exact Or.inl ⟨by unfold ltr; decide, by unfold isL; decide⟩
  rw [if_neg g116] at h
  by_cases g117 : x = 117
  · rw [if_pos g117] at h; have h : r = -1 := h; subst g117; exact Or.inr ⟨h, by unfold isL; decide⟩
  rw [if_neg g117] at h
  by_cases g118 : x = 118
  · rw [if_pos g118] at h; have h : r = -1 := h; subst g118; exact Or.inr ⟨h, by unfold isL; decide⟩
  rw [if_neg g118] at h
  by_cases g119 : x = 119
  · rw [if_pos g119] at h; have h : r = 1 := h; subst h; subst g119; exact Or.inl ⟨by unfold ltr; decide, by unfold isL; decide⟩
  rw [if_neg g119] at h
  by_cases g120 : x = 120
  · rw [if_pos g120] at h; have h : r = -1 := h; subst g120; exact Or.inr ⟨h, by unfold isL; decide⟩
  rw [if_neg g120] at h
  by_cases g121 : x = 121
  · rw [if_pos g121] at h; have h : r = 6 := h; subst h; subst g121; exact Or.inl ⟨by unfold ltr; decide, by unfold isL; decide⟩
  rw [if_neg g121] at h
  by_cases g122 : x = 122
  · rw [if_pos g122] at h; have h : r = 7 := h; subst h; subst g122; exact Or.inl ⟨by unfold ltr; decide, by unfold isL; decide⟩
  rw [if_neg g122] at h
  have h : r = -1 := h
  refine Or.inr ⟨h, fun hl => ?_⟩
  unfold isL at hl
  rcases hl with e | e | e | e | e | e | e | e | e | e | e | e | e
  · exact g100 e
  · exact g119 e
  · exact g108 e
  · exact g111 e
  · exact g102 e
  · exact g115 e
  · exact g121 e
  · exact g122 e
  · exact g112 e
  · exact g116 e
  · exact g110 e
  · exact g97 e
  · exact g113 e
theorem ltr_fc {z c : Int} (h : ltr z c) : (0 ≤ z ∧ z ≤ 12) ∧ c - 97 = ((fc z.toNat : Nat) : Int) := by
  unfold ltr at h
  rcases h with ⟨rfl, rfl⟩ | ⟨rfl, rfl⟩ | ⟨rfl, rfl⟩ | ⟨rfl, rfl⟩ | ⟨rfl, rfl⟩ | ⟨rfl, rfl⟩ | ⟨rfl, rfl⟩ | ⟨rfl, rfl⟩ | ⟨rfl, rfl⟩ | ⟨rfl, rfl⟩ | ⟨rfl, rfl⟩ | ⟨rfl, rfl⟩ | ⟨rfl, rfl⟩ <;> decide
theorem iB_c : ∀ c : Nat, c < 256 → iB (c : Int) = if c < 128 then (c : Int) else (c : Int) - 256 := by decide +kernel
theorem iC_c {c : Int} (h : 0 ≤ c ∧ c ≤ 255) : iC c = c := by
  have e : ∀ c : Nat, c < 256 → iC (c : Int) = c := by decide +kernel
  obtain ⟨n, rfl⟩ : ∃ n : Nat, c = n := ⟨c.toNat, by omega⟩
  exact e n (by omega)
theorem q_indexOf {k : Nat} {c r : Int} (hk : k < 3) (hc : 0 ≤ c ∧ c ≤ 255) (h : f_j_indexOf k c r) : (0 ≤ r ∧ ∃ j : Nat, j < zLen.getD k 0 ∧ zsb k j = c) ∨ (r = -1 ∧ ∀ j : Nat, j < zLen.getD k 0 → ¬ zsb k j = c) := by
  have hl : 1 ≤ zsl k ∧ zsl k ≤ 13 := by
    rcases (show k = 0 ∨ k = 1 ∨ k = 2 by omega) with rfl | rfl | rfl <;> decide
  have hpos : ∀ j : Nat, j < zLen.getD k 0 → 0 ≤ zsb k j ∧ zsb k j ≤ 127 := by
    have e : ∀ k : Nat, k < 3 → ∀ j : Nat, j < zLen.getD k 0 → 0 ≤ zsb k j ∧ zsb k j ≤ 127 := by decide +kernel
    exact e k hk
  have hB : ∀ j : Nat, j < zLen.getD k 0 → (zsb k j = iB c ↔ zsb k j = c) := fun j hj => by
    have h1 := hpos j hj
    have h2 := iB_c c.toNat (by omega)
    rw [Int.toNat_of_nonneg hc.1] at h2
    split at h2 <;> omega
  simp only [f_j_indexOf, f_j_indexOf2, f_j_isLatin1, f_j_length, f_j_coder, calR, rtn] at h
  obtain ⟨r2, ⟨z1, rfl, -, z2, hz2, z3, hz3, rfl⟩, rfl⟩ := h
  obtain ⟨z0, rfl, -, hz2⟩ := hz2
  have hz2 : z2 = iShr (zsl k) 0 := hz2
  have e0 : iShr (zsl k) 0 = zsl k := by
    rcases (show k = 0 ∨ k = 1 ∨ k = 2 by omega) with rfl | rfl | rfl <;> decide
  rw [e0] at hz2
  subst hz2
  simp only [f_j_indexOfL, rdb] at hz3
  obtain ⟨y, hy, -, hz3⟩ := hz3
  have hy1 : y = 1 := by
    simp only [f_j_canEncode, rtn, if_r] at hy
    omega
  rw [if_pos (by omega)] at hz3
  obtain ⟨-, -, hz3⟩ := hz3
  rw [if_pos (by omega)] at hz3
  obtain ⟨q, hq, hz3⟩ := hz3
  have hz3 : r = q := hz3
  subst hz3
  simp only [f_j_indexOfChar, rdb] at hq
  obtain ⟨-, hq⟩ := hq
  obtain ⟨b, hb, hq⟩ := lop1_g hq
  have hlen : min (zsl k) (zsl k) = ((zLen.getD k 0 : Nat) : Int) := by
    rw [Int.min_self]; rfl
  rw [hlen] at hb
  have key : ∀ (n j : Nat), j ≤ zLen.getD k 0 → (∀ i : Nat, i < j → ¬ zsb k i = c) → lop1 n b (j : Int) r → (0 ≤ r ∧ ∃ j : Nat, j < zLen.getD k 0 ∧ zsb k j = c) ∨ (r = -1 ∧ ∀ j : Nat, j < zLen.getD k 0 → ¬ zsb k j = c) := by
    intro n
    induction n with
    | zero => intro j _ _ h; exact False.elim h
    | succ n ih =>
      intro j hj hn h
      rw [lop1_s hb] at h
      by_cases g : ((zLen.getD k 0 : Nat) : Int) ≤ j
      · rw [if_pos g] at h
        exact Or.inr ⟨h, fun i hi => hn i (by omega)⟩
      · rw [if_neg g] at h
        by_cases g2 : zsb k j = iB c
        · rw [if_neg (fun hh => hh g2)] at h
          have h : r = j := h
          exact Or.inl ⟨by omega, j, by omega, (hB j (by omega)).mp g2⟩
        · rw [if_pos g2] at h
          refine ih (j + 1) (by omega) (fun i hi => ?_) (by rw [Int.natCast_add]; exact h)
          by_cases e : i = j
          · subst e
            exact fun hh => g2 ((hB i (by omega)).mpr hh)
          · exact hn i (by omega)
  exact key _ 0 (by omega) (fun i hi => by omega) hq
theorem q_letters {c r : Int} (hc : 0 ≤ c ∧ c ≤ 255) (h : f_j_indexOf 1 c r) : (0 ≤ r ∧ isL c) ∨ (r = -1 ∧ ¬ isL c) := by
  rcases q_indexOf (by decide) hc h with ⟨h1, j, hj, h2⟩ | ⟨h1, h2⟩
  · refine Or.inl ⟨h1, ?_⟩
    have hj : j < 13 := hj
    unfold isL
    rcases (show j = 0 ∨ j = 1 ∨ j = 2 ∨ j = 3 ∨ j = 4 ∨ j = 5 ∨ j = 6 ∨ j = 7 ∨ j = 8 ∨ j = 9 ∨ j = 10 ∨ j = 11 ∨ j = 12 by omega) with rfl | rfl | rfl | rfl | rfl | rfl | rfl | rfl | rfl | rfl | rfl | rfl | rfl <;> subst h2 <;> decide
  · refine Or.inr ⟨h1, fun hl => ?_⟩
    unfold isL at hl
    rcases hl with rfl | rfl | rfl | rfl | rfl | rfl | rfl | rfl | rfl | rfl | rfl | rfl | rfl
    · exact h2 0 (by decide) (by decide)
    · exact h2 1 (by decide) (by decide)
    · exact h2 2 (by decide) (by decide)
    · exact h2 3 (by decide) (by decide)
    · exact h2 4 (by decide) (by decide)
    · exact h2 5 (by decide) (by decide)
    · exact h2 6 (by decide) (by decide)
    · exact h2 7 (by decide) (by decide)
    · exact h2 8 (by decide) (by decide)
    · exact h2 9 (by decide) (by decide)
    · exact h2 10 (by decide) (by decide)
    · exact h2 11 (by decide) (by decide)
    · exact h2 12 (by decide) (by decide)
end
section
-- reading: the stacks; operators that wait (own work)
/-- a word of the first side, a word of the reference -/
def stw (s w : Int) : Prop := ∃ op v : Int, w = 1048576 * op + v ∧ stp s op v
theorem stw_op {o : Int} (h : 2 ≤ o ∧ o ≤ 12) : stw o (1048576 * o + 0) := ⟨o, 0, rfl, by omega, by omega, by omega, by omega, Or.inl ⟨by omega, by omega⟩⟩
/-- the code: the first side's is ahead of the reference's by the operators L -/
def CA (t : Nat) (V W : Nat → Nat → Int) (L : List Int) : Prop :=
  0 ≤ W 0 10 ∧ V t 1 = W 0 10 + L.length ∧ (∀ k : Nat, (k : Int) < W 0 10 → stw (V (t + 1) k) (W 5 k)) ∧ ∀ i : Nat, i < L.length → V (t + 1) ((W 0 10).toNat + i) = L.getD i 0
/-- the words O wait on the reference's stack above place b, the last one first -/
def WS (W : Nat → Nat → Int) (b : Int) (O : List Int) : Prop := 0 ≤ b ∧ W 0 11 = b + O.length ∧ ∀ i : Nat, i < O.length → W 6 ((W 0 11).toNat - 1 - i) = 1048576 * O.getD i 0
def wtop (W : Nat → Nat → Int) : Int := if W 0 11 = 0 then -1 else iDiv (W 6 (W 0 11 - 1).toNat) 1048576
theorem q_wtop {r : Int} {W J : Nat → Nat → Int} {R : Nat → Nat → Nat} (h : f_m_waitTop W J R r) : r = wtop W := by
  simp only [f_m_waitTop, rdb] at h
  obtain ⟨-, h⟩ := h
  unfold wtop
  by_cases g : W 0 11 = 0
  · rw [if_neg (fun hh => hh g)] at h
    rw [if_pos g]; exact h
  · rw [if_pos g] at h
    rw [if_neg g]; exact h
theorem WS.top {W : Nat → Nat → Int} {b o : Int} {O : List Int} (h : WS W b (o :: O)) (ho : 0 ≤ o ∧ o ≤ 14) : wtop W = o := by
  obtain ⟨h1, h2, h3⟩ := h
  have h0 := h3 0 (by simp)
  simp only [List.length_cons, Int.natCast_add] at h2
  unfold wtop
  rw [if_neg (by omega), show (W 0 11 - 1).toNat = (W 0 11).toNat - 1 - 0 by omega, h0]
  show iDiv (1048576 * o) 1048576 = o
  rw [iDiv_p (by omega) (by decide)]
  omega
/-- one operator is noted and taken off -/
def clo (W : Nat → Nat → Int) (o : Int) : Nat → Nat → Int := up2 (up2 (up2 W 5 (W 0 10).toNat (1048576 * o + 0)) 0 10 (W 0 10 + 1)) 0 11 (W 0 11 - 1)
theorem clo_10 (W : Nat → Nat → Int) (o : Int) : clo W o 0 10 = W 0 10 + 1 := by unfold clo; rw [up2_n _ _ (Or.inr (by decide)), up2_s]
theorem clo_11 (W : Nat → Nat → Int) (o : Int) : clo W o 0 11 = W 0 11 - 1 := by unfold clo; rw [up2_s]
theorem clo_0 (W : Nat → Nat → Int) (o : Int) {k : Nat} (h : k ≠ 10) (h2 : k ≠ 11) : clo W o 0 k = W 0 k := by unfold clo; rw [up2_n _ _ (Or.inr h2), up2_n _ _ (Or.inr h), up2_n _ _ (Or.inl (by decide))]
theorem clo_r (W : Nat → Nat → Int) (o : Int) {i : Nat} (h : i ≠ 0) (h2 : i ≠ 5) : clo W o i = W i := by unfold clo; rw [up2_c _ _ h, up2_c _ _ h, up2_c _ _ h2]
theorem clo_5 (W : Nat → Nat → Int) (o : Int) (k : Nat) : clo W o 5 k = if k = (W 0 10).toNat then 1048576 * o + 0 else W 5 k := by
  unfold clo
  rw [up2_n _ _ (Or.inl (by decide)), up2_n _ _ (Or.inl (by decide))]
  by_cases e : k = (W 0 10).toNat
  · subst e; rw [up2_s, if_pos rfl]
  · rw [up2_n _ _ (Or.inr e), if_neg e]
theorem CA.dn {t : Nat} {V W : Nat → Nat → Int} {o : Int} {L : List Int} (h : CA t V W (o :: L)) (ho : 2 ≤ o ∧ o ≤ 12) : CA t V (clo W o) L := by
  obtain ⟨h1, h2, h3, h4⟩ := h
  have h0 : V (t + 1) (W 0 10).toNat = o := h4 0 (by simp)
  simp only [List.length_cons, Int.natCast_add] at h2
  refine ⟨by rw [clo_10]; omega, by rw [clo_10]; omega, fun k hk => ?_, fun i hi => ?_⟩
  · rw [clo_10] at hk
    rw [clo_5]
    by_cases e : k = (W 0 10).toNat
    · rw [if_pos e]
      subst e
      rw [h0]
      exact stw_op ho
    · rw [if_neg e]
      exact h3 k (by omega)
  · rw [clo_10]
    have := h4 (i + 1) (by simp; omega)
    rw [show (W 0 10 + 1).toNat + i = (W 0 10).toNat + (i + 1) by omega, this]
    rfl
theorem WS.dn {W : Nat → Nat → Int} {b o : Int} {O : List Int} (h : WS W b (o :: O)) : WS (clo W o) b O := by
  obtain ⟨h1, h2, h3⟩ := h
  simp only [List.length_cons, Int.natCast_add] at h2
  refine ⟨h1, by rw [clo_11]; omega, fun i hi => ?_⟩
  have := h3 (i + 1) (by simp; omega)
  rw [clo_r _ _ (by decide) (by decide), clo_11, show (W 0 11 - 1).toNat - 1 - i = (W 0 11).toNat - 1 - (i + 1) by omega, this]
  rfl
def popc (x o : Int) : Prop := (4 ≤ o ∧ o ≤ 6) ∨ (x = 1 ∧ (o = 2 ∨ o = 3))
def clB (x1 : Int) (J : Nat → Nat → Int) (Rr : Nat → Nat → Nat) : ((Nat → Nat → Int) → (Nat → Nat → Int) → Prop) → (Nat → Nat → Int) → (Nat → Nat → Int) → Prop :=
  (fun rc65 (V65 : Nat → Nat → Int) => rdb (V65 0 5) fun z66 => fct (0 ≤ z66 ∧ z66 ≤ 220) <| rdb (V65 0 10) fun z67 => fct (0 ≤ z67 ∧ z67 ≤ 220) <| rdb (V65 0 11) fun z68 => fct (0 ≤ z68 ∧ z68 ≤ 220) <| calR (f_m_waitTop V65 J Rr) fun z69 => (if z69 < 4 then (if x1 = 0 then rtn V65 else calR (f_m_waitTop V65 J Rr) fun z72 => (if z72 = 2 then calR (f_m_waitTop V65 J Rr) fun z74 => calUM 590295810358705652736 V65 (f_m_notes z74 0 V65 J Rr) fun V75 => rdb (up2 V75 0 11 (z68 - 1)) fun V76 => rc65 V76 else calR (f_m_waitTop V65 J Rr) fun z77 => (if ¬ z77 = 3 then rtn V65 else calR (f_m_waitTop V65 J Rr) fun z79 => calUM 590295810358705652736 V65 (f_m_notes z79 0 V65 J Rr) fun V80 => rdb (up2 V80 0 11 (z68 - 1)) fun V81 => rc65 V81))) else calR (f_m_waitTop V65 J Rr) fun z82 => (if z82 ≤ 6 then calR (f_m_waitTop V65 J Rr) fun z84 => calUM 590295810358705652736 V65 (f_m_notes z84 0 V65 J Rr) fun V85 => rdb (up2 V85 0 11 (z68 - 1)) fun V86 => rc65 V86 else (if x1 = 0 then rtn V65 else calR (f_m_waitTop V65 J Rr) fun z88 => (if z88 = 2 then calR (f_m_waitTop V65 J Rr) fun z90 => calUM 590295810358705652736 V65 (f_m_notes z90 0 V65 J Rr) fun V91 => rdb (up2 V91 0 11 (z68 - 1)) fun V92 => rc65 V92 else calR (f_m_waitTop V65 J Rr) fun z93 => (if ¬ z93 = 3 then rtn V65 else calR (f_m_waitTop V65 J Rr) fun z95 => calUM 590295810358705652736 V65 (f_m_notes z95 0 V65 J Rr) fun V96 => rdb (up2 V96 0 11 (z68 - 1)) fun V97 => rc65 V97))))))
theorem cl_stop {x : Int} {W X J : Nat → Nat → Int} {R : Nat → Nat → Nat} {n : Nat} (hx : x = 0 ∨ x = 1) (h : lop1 n (clB x J R) W X) (hp : ¬ popc x (wtop W)) : X = W := by
  cases n with
  | zero => exact False.elim h
  | succ n =>
    have h : clB x J R (lop1 n (clB x J R)) W X := h
    unfold clB at h
    obtain ⟨z66, -, -, h⟩ := rdb_g h
    obtain ⟨z67, -, -, h⟩ := rdb_g h
    obtain ⟨z68, -, -, h⟩ := rdb_g h
    obtain ⟨z69, hz, h⟩ := h
    have hz := q_wtop hz
    unfold popc at hp
    rw [← hz] at hp
    by_cases g : z69 < 4
    · rw [if_pos g] at h
      by_cases g0 : x = 0
      · rw [if_pos g0] at h; exact h
      · rw [if_neg g0] at h
        obtain ⟨z72, hz2, h⟩ := h
        have hz2 := q_wtop hz2
        by_cases g2 : z72 = 2
        · exact absurd (Or.inr ⟨by omega, Or.inl (by omega)⟩) hp
        · rw [if_neg g2] at h
          obtain ⟨z77, hz3, h⟩ := h
          have hz3 := q_wtop hz3
          by_cases g3 : z77 = 3
          · exact absurd (Or.inr ⟨by omega, Or.inr (by omega)⟩) hp
          · rw [if_pos g3] at h; exact h
    · rw [if_neg g] at h
      obtain ⟨z82, hz2, h⟩ := h
      have hz2 := q_wtop hz2
      rw [if_neg (by omega)] at h
      by_cases g0 : x = 0
      · rw [if_pos g0] at h; exact h
      · rw [if_neg g0] at h
        obtain ⟨z88, hz3, h⟩ := h
        have hz3 := q_wtop hz3
        rw [if_neg (by omega)] at h
        obtain ⟨z93, hz4, h⟩ := h
        have hz4 := q_wtop hz4
        rw [if_pos (by omega)] at h
        exact h
theorem cl_go {x : Int} {W X J : Nat → Nat → Int} {R : Nat → Nat → Nat} {n : Nat} (hx : x = 0 ∨ x = 1) (h : lop1 n (clB x J R) W X) (hp : popc x (wtop W)) : ∃ m : Nat, lop1 m (clB x J R) (clo W (wtop W)) X := by
  cases n with
  | zero => exact False.elim h
  | succ n =>
    have h : clB x J R (lop1 n (clB x J R)) W X := h
    unfold clB at h
    obtain ⟨z66, -, -, h⟩ := rdb_g h
    obtain ⟨z67, -, -, h⟩ := rdb_g h
    obtain ⟨z68, e68, -, h⟩ := rdb_g h
    obtain ⟨z69, hz, h⟩ := h
    have hz := q_wtop hz
    have fin : ∀ (z : Int) (Y : Nat → Nat → Int), f_m_notes z 0 W J R Y → z = wtop W → up2 Y 0 11 (z68 - 1) = clo W (wtop W) := fun z Y hy hzz => by
      rw [q_notes hy, hzz, ← e68]; rfl
    unfold popc at hp
    rw [← hz] at hp
    by_cases g : z69 < 4
    · rw [if_pos g, if_neg (by omega)] at h
      obtain ⟨z72, hz2, h⟩ := h
      have hz2 := q_wtop hz2
      by_cases g2 : z72 = 2
      · rw [if_pos g2] at h
        obtain ⟨z74, hz3, Y, hy, -, h⟩ := h
        have hz3 := q_wtop hz3
        have h : lop1 n (clB x J R) (up2 Y 0 11 (z68 - 1)) X := h
        rw [fin z74 Y hy hz3] at h
        exact ⟨n, h⟩
      · rw [if_neg g2] at h
        obtain ⟨z77, hz3, h⟩ := h
        have hz3 := q_wtop hz3
        rw [if_neg (fun hh => hh (by omega))] at h
        obtain ⟨z79, hz4, Y, hy, -, h⟩ := h
        have hz4 := q_wtop hz4
        have h : lop1 n (clB x J R) (up2 Y 0 11 (z68 - 1)) X := h
        rw [fin z79 Y hy hz4] at h
        exact ⟨n, h⟩
    · rw [if_neg g] at h
      obtain ⟨z82, hz2, h⟩ := h
      have hz2 := q_wtop hz2
      rw [if_pos (by omega)] at h
      obtain ⟨z84, hz3, Y, hy, -, h⟩ := h
      have hz3 := q_wtop hz3
      have h : lop1 n (clB x J R) (up2 Y 0 11 (z68 - 1)) X := h
      rw [fin z84 Y hy hz3] at h
      exact ⟨n, h⟩
theorem cl_all {x : Int} {J X : Nat → Nat → Int} {R : Nat → Nat → Nat} (hx : x = 0 ∨ x = 1) : ∀ (P A : List Int) (n : Nat) (b : Int) (W : Nat → Nat → Int), lop1 n (clB x J R) W X → WS W b (P ++ A) → (∀ o ∈ P, popc x o) → (∀ Y : Nat → Nat → Int, Y 6 = W 6 → WS Y b A → ¬ popc x (wtop Y)) → X = P.foldl clo W := by
  intro P
  induction P with
  | nil =>
    intro A n b W h hW _ hA
    exact cl_stop hx h (hA W rfl hW)
  | cons o P ih =>
    intro A n b W h hW hP hA
    have ho := hP o (List.mem_cons_self ..)
    have ho2 : 0 ≤ o ∧ o ≤ 14 := by unfold popc at ho; omega
    have ht : wtop W = o := WS.top hW ho2
    obtain ⟨m, h⟩ := cl_go hx h (by rw [ht]; exact ho)
    rw [ht] at h
    exact ih A m b (clo W o) h hW.dn (fun q hq => hP q (List.mem_cons_of_mem _ hq)) (fun Y hY hWY => hA Y (hY.trans (clo_r _ _ (by decide) (by decide))) hWY)
theorem CA.fold {t : Nat} {V : Nat → Nat → Int} {L : List Int} : ∀ (P : List Int) (W : Nat → Nat → Int), CA t V W (P ++ L) → (∀ o ∈ P, 2 ≤ o ∧ o ≤ 12) → CA t V (P.foldl clo W) L := by
  intro P
  induction P with
  | nil => intro W h _; exact h
  | cons o P ih => intro W h hP; exact ih (clo W o) (CA.dn h (hP o (List.mem_cons_self ..))) (fun q hq => hP q (List.mem_cons_of_mem _ hq))
theorem WS.fold {b : Int} {A : List Int} : ∀ (P : List Int) (W : Nat → Nat → Int), WS W b (P ++ A) → WS (P.foldl clo W) b A := by
  intro P
  induction P with
  | nil => intro W h; exact h
  | cons o P ih => intro W h; exact ih (clo W o) h.dn
theorem fold_0 {k : Nat} (h1 : k ≠ 10) (h2 : k ≠ 11) : ∀ (P : List Int) (W : Nat → Nat → Int), P.foldl clo W 0 k = W 0 k := by
  intro P
  induction P with
  | nil => intro W; rfl
  | cons o P ih => intro W; exact (ih (clo W o)).trans (clo_0 W o h1 h2)
theorem fold_r {i : Nat} (h1 : i ≠ 0) (h2 : i ≠ 5) : ∀ (P : List Int) (W : Nat → Nat → Int), P.foldl clo W i = W i := by
  intro P
  induction P with
  | nil => intro W; rfl
  | cons o P ih => intro W; exact (ih (clo W o)).trans (clo_r W o h1 h2)
end
section
-- reading: numbers, factors; how the sum goes on (own work)
theorem q_rDigit {c r : Int} (h : f_r_isDigit c r) : Sq r (48 ≤ c ∧ c ≤ 57) := by
  simp only [f_r_isDigit, rtn, if_r] at h
  unfold Sq
  omega
theorem q_mDigit {r : Int} {W J : Nat → Nat → Int} {R : Nat → Nat → Nat} (h : f_m_isDigit W J R r) : Sq r (48 ≤ sgnZ W ∧ sgnZ W ≤ 57) := by
  simp only [f_m_isDigit, rdb] at h
  obtain ⟨z, hz, -, -, -, h⟩ := h
  have hz := q_here hz
  unfold Sq
  by_cases g : z < 48
  · rw [if_pos g] at h
    have h : r = 0 := h
    omega
  · rw [if_neg g] at h
    obtain ⟨y, hy, -, h⟩ := h
    have hy := q_here hy
    by_cases g2 : 57 < y
    · rw [if_pos g2] at h
      have h : r = 0 := h
      omega
    · rw [if_neg g2] at h
      have h : r = 1 := h
      omega
theorem q_opens {x b : Int} {W J X : Nat → Nat → Int} {R : Nat → Nat → Nat} (h : f_m_opens x W J R (b, X)) (ho : 0 ≤ W 0 9 ∧ W 0 9 ≤ 6) : (W 0 9 = 6 ∧ b = 0 ∧ X = up2 W 0 7 (-5000 - W 0 5)) ∨ (¬ W 0 9 = 6 ∧ b = 1 ∧ X = up2 (up2 (up2 (up2 W 0 9 (W 0 9 + 1)) 6 (W 0 11).toNat (1048576 * x)) 0 11 (W 0 11 + 1)) 0 5 (W 0 5 + 1)) := by
  simp only [f_m_opens, rdb] at h
  obtain ⟨hp, -, -, h⟩ := h
  by_cases g : W 0 9 = 6
  · rw [if_neg (fun hh => hh g)] at h
    obtain ⟨y, Y, hy, -, -, h⟩ := h
    simp only [rtn, Prod.mk.injEq] at h
    obtain ⟨k1, k2⟩ := q_wrong hy (by decide) hp
    refine Or.inl ⟨g, h.1.trans k1, ?_⟩
    rw [h.2, k2]
    congr 1
  · rw [if_pos g, wr_id ⟨by omega, by omega⟩] at h
    simp only [rtn, Prod.mk.injEq] at h
    exact Or.inr ⟨g, h.1, h.2⟩
theorem q_hasOpen {z r : Int} {W J : Nat → Nat → Int} {R : Nat → Nat → Nat} (h : f_m_hasOpenSum z W J R r) (hz : 0 ≤ z) : (r = 1 ∧ ∃ j : Nat, z ≤ j ∧ (j : Int) < W 0 11 ∧ iDiv (W 6 j) 1048576 = 14) ∨ (r = 0 ∧ ∀ j : Nat, z ≤ j → (j : Int) < W 0 11 → ¬ iDiv (W 6 j) 1048576 = 14) := by
  simp only [f_m_hasOpenSum, rdb] at h
  obtain ⟨b, hb, h⟩ := lop1_g h
  have key : ∀ (n : Nat) (i : Int), z ≤ i → (∀ j : Nat, z ≤ j → (j : Int) < i → (j : Int) < W 0 11 → ¬ iDiv (W 6 j) 1048576 = 14) → lop1 n b i r → (r = 1 ∧ ∃ j : Nat, z ≤ j ∧ (j : Int) < W 0 11 ∧ iDiv (W 6 j) 1048576 = 14) ∨ (r = 0 ∧ ∀ j : Nat, z ≤ j → (j : Int) < W 0 11 → ¬ iDiv (W 6 j) 1048576 = 14) := by
    intro n
    induction n with
    | zero => intro i _ _ h; exact False.elim h
    | succ n ih =>
      intro i hi hn h
      rw [lop1_s hb] at h
      obtain ⟨-, h⟩ := h
      by_cases g : W 0 11 ≤ i
      · rw [if_pos g] at h
        exact Or.inr ⟨h, fun j h1 h2 => hn j h1 (by omega) h2⟩
      · rw [if_neg g] at h
        by_cases g2 : iDiv (W 6 i.toNat) 1048576 = 14
        · rw [if_neg (fun hh => hh g2)] at h
          exact Or.inl ⟨h, i.toNat, by omega, by omega, g2⟩
        · rw [if_pos g2] at h
          refine ih (i + 1) (by omega) (fun j h1 h2 h3 => ?_) h
          by_cases e : (j : Int) = i
          · rw [show j = i.toNat by omega]; exact g2
          · exact hn j h1 (by omega) h3
  exact key _ z (Int.le_refl _) (fun j h1 h2 => by omega) h
/-- the same fault -/
def FLT (u x : Int) : Prop := u = x ∧ u < 0
/-- a number, on both sides: the same digits, then the first side has put it -/
theorem q_number {t : Nat} {a c : Int} {V W J Jm U X : Nat → Nat → Int} {R Rm : Nat → Nat → Nat} (hP : PP V W) (ht : R 72 1 = t) (h72 : t ≠ 72 ∧ t + 1 ≠ 72) (hl : 0 ≤ V t 1 ∧ V t 1 < 200)
    (hx : f_r_number V J R (a, U)) (hm : f_m_readsNumber W Jm Rm (c, X)) :
    (a = 1 ∧ c = 1 ∧ (∃ (w p : Int) (V2 : Nat → Nat → Int), (0 ≤ w ∧ w < 100000) ∧ (W 0 5 ≤ p ∧ p ≤ W 0 6) ∧ ((48 ≤ sgnZ W ∧ sgnZ W ≤ 57) → W 0 5 < p) ∧ U = up2 (up2 V2 (t + 1) (V t 1).toNat (0 + 16 * w)) t 1 (V t 1 + 1) ∧ V2 72 2 = p ∧ (∀ k : Nat, k ≠ 2 → V2 72 k = V 72 k) ∧ (∀ i : Nat, i ≠ 72 → V2 i = V i) ∧ X 0 8 = w ∧ X 0 5 = p ∧ (∀ k : Nat, k ≠ 5 → k ≠ 8 → X 0 k = W 0 k) ∧ ∀ i : Nat, i ≠ 0 → X i = W i)) ∨
    (a = 0 ∧ c = 0 ∧ FLT (U 72 5) (X 0 7)) := by
  unfold f_r_number at hx
  obtain ⟨z1, -, hx⟩ := rdb_g hx
  unfold f_m_readsNumber at hm
  obtain ⟨s0, es0, -, hm⟩ := rdb_g hm
  obtain ⟨e0, -, -, hm⟩ := rdb_g hm
  obtain ⟨W3, eW3, hm⟩ := rdb_g hm
  obtain ⟨bX, hbX, hx⟩ := lop3_g hx
  obtain ⟨bM, hbM, hm⟩ := lop1_g hm
  obtain ⟨P1, P2, P3, P4⟩ := hP
  have key : ∀ (n m i : Nat) (w : Int) (V1 W1 : Nat → Nat → Int), i ≤ 5 → (0 ≤ w ∧ w < 10 ^ i) → W 0 5 + i ≤ W 0 6 → (V1 72 2 = W 0 5 + i ∧ (∀ k : Nat, k ≠ 2 → V1 72 k = V 72 k) ∧ ∀ q : Nat, q ≠ 72 → V1 q = V q) → (W1 0 8 = w ∧ W1 0 5 = W 0 5 + i ∧ (∀ k : Nat, k ≠ 5 → k ≠ 8 → W1 0 k = W 0 k) ∧ ∀ q : Nat, q ≠ 0 → W1 q = W q) →
      (i = 0 ∨ W 0 5 < W 0 5 + i) → lop3 n bX (i : Int) w V1 (a, U) → lop1 m bM W1 (c, X) →
      (a = 1 ∧ c = 1 ∧ (∃ (w p : Int) (V2 : Nat → Nat → Int), (0 ≤ w ∧ w < 100000) ∧ (W 0 5 ≤ p ∧ p ≤ W 0 6) ∧ ((48 ≤ sgnZ W ∧ sgnZ W ≤ 57) → W 0 5 < p) ∧ U = up2 (up2 V2 (t + 1) (V t 1).toNat (0 + 16 * w)) t 1 (V t 1 + 1) ∧ V2 72 2 = p ∧ (∀ k : Nat, k ≠ 2 → V2 72 k = V 72 k) ∧ (∀ i : Nat, i ≠ 72 → V2 i = V i) ∧ X 0 8 = w ∧ X 0 5 = p ∧ (∀ k : Nat, k ≠ 5 → k ≠ 8 → X 0 k = W 0 k) ∧ ∀ i : Nat, i ≠ 0 → X i = W i)) ∨ (a = 0 ∧ c = 0 ∧ FLT (U 72 5) (X 0 7)) := by
    intro n
    induction n with
    | zero => intro m i w V1 W1 _ _ _ _ _ _ hx; exact False.elim hx
    | succ n ih =>
      intro m i w V1 W1 hi hw hpi hV hW hi0 hx hm
      cases m with
      | zero => exact False.elim hm
      | succ m =>
        rw [lop3_s hbX] at hx
        rw [lop1_s hbM] at hm
        obtain ⟨v1, v2, v3⟩ := hV
        obtain ⟨w1, w2, w3, w4⟩ := hW
        have PP1 : PP V1 W1 := by
          refine ⟨by omega, ?_, ?_, fun k hk => ?_⟩
          · rw [v2 3 (by decide), w3 6 (by decide) (by decide)]; exact P2
          · rw [w3 6 (by decide) (by decide), v3 58 (by decide)]; omega
          · rw [w3 6 (by decide) (by decide)] at hk
            rw [v3 59 (by decide), w4 4 (by decide)]; exact P4 k hk
        have p10 : (10 : Int) ^ i ≤ 100000 := by
          have e : ∀ q : Nat, q < 6 → (10 : Int) ^ q ≤ 100000 := by decide
          exact e i (by omega)
        have hx := jnk_d hx
        obtain ⟨y5, e5, -, hm⟩ := rdb_g hm
        obtain ⟨y6, e6, -, hm⟩ := rdb_g hm
        obtain ⟨y8, e8, hm⟩ := rdb_g hm
        obtain ⟨zd, hzd, -, hm⟩ := hm
        have hzd := q_mDigit hzd
        -- the first side asks at its end
        have stop : (∀ (K : Int × (Nat → Nat → Int) → Prop), True) → calR (f_r_peek V1 J R) (fun z203 => calR (f_r_isDigit z203) fun z204 => fct (0 ≤ z204 ∧ z204 ≤ 1) <| (if z204 = 0 then rdb (R 72 1) fun t206 => calUX (fun i k : Nat => (t206 ≤ i ∧ i ≤ t206 + 4)) V1 (f_r_put t206 0 w V1 J R) fun V207 => rtn (1, V207) else calVX (fun i k : Nat => (72 ≤ i ∧ i ≤ 72)) V1 (f_r_fail 2 V1 J R) fun z208 V208 => fct (0 ≤ z208 ∧ z208 ≤ 0) <| rtn (z208, V208))) (a, U) →
            ((¬ (48 ≤ sgnZ W1 ∧ sgnZ W1 ≤ 57)) ∧ a = 1 ∧ U = up2 (up2 V1 (t + 1) (V t 1).toNat (0 + 16 * w)) t 1 (V t 1 + 1)) ∨ ((48 ≤ sgnZ W1 ∧ sgnZ W1 ≤ 57) ∧ a = 0 ∧ U 72 5 = -2000 - W1 0 5) := fun _ hx => by
          obtain ⟨s, hs, hx⟩ := hx
          have hs := q_peek PP1 hs
          subst hs
          obtain ⟨d, hd, -, hx⟩ := hx
          have hd := q_rDigit hd
          by_cases g : d = 0
          · rw [if_pos g] at hx
            obtain ⟨t2, et2, hx⟩ := rdb_g hx
            rw [ht] at et2
            subst et2
            obtain ⟨Y, hy, -, hx⟩ := hx
            simp only [rtn, Prod.mk.injEq] at hx
            have e1 : V1 t = V t := v3 t h72.1
            have := q_put hy (by decide) (by omega) (by rw [e1]; exact hl)
            rw [e1] at this
            exact Or.inl ⟨hd.off g, hx.1, by rw [hx.2]; exact this⟩
          · rw [if_neg g] at hx
            obtain ⟨y, Y, hy, -, -, hx⟩ := hx
            simp only [rtn, Prod.mk.injEq] at hx
            obtain ⟨k1, k2⟩ := q_fail hy (by decide) (by omega)
            refine Or.inr ⟨hd.on g, by omega, ?_⟩
            rw [hx.2, k2, up2_s]
            omega
        have yes : (¬ (48 ≤ sgnZ W1 ∧ sgnZ W1 ≤ 57)) → a = 1 → U = up2 (up2 V1 (t + 1) (V t 1).toNat (0 + 16 * w)) t 1 (V t 1 + 1) → (c = 1 ∧ X = W1) → (a = 1 ∧ c = 1 ∧ (∃ (w p : Int) (V2 : Nat → Nat → Int), (0 ≤ w ∧ w < 100000) ∧ (W 0 5 ≤ p ∧ p ≤ W 0 6) ∧ ((48 ≤ sgnZ W ∧ sgnZ W ≤ 57) → W 0 5 < p) ∧ U = up2 (up2 V2 (t + 1) (V t 1).toNat (0 + 16 * w)) t 1 (V t 1 + 1) ∧ V2 72 2 = p ∧ (∀ k : Nat, k ≠ 2 → V2 72 k = V 72 k) ∧ (∀ i : Nat, i ≠ 72 → V2 i = V i) ∧ X 0 8 = w ∧ X 0 5 = p ∧ (∀ k : Nat, k ≠ 5 → k ≠ 8 → X 0 k = W 0 k) ∧ ∀ i : Nat, i ≠ 0 → X i = W i)) := fun hn ha hU hc => by
          obtain ⟨hc1, hX⟩ := hc
          subst hX
          refine ⟨ha, hc1, w, W 0 5 + i, V1, ⟨hw.1, by omega⟩, ⟨by omega, hpi⟩, fun hd => ?_, hU, v1, v2, v3, w1, w2, w3, w4⟩
          rcases hi0 with h0 | h0
          · subst h0
            have : sgnZ X = sgnZ W := by
              unfold sgnZ
              rw [w2, w3 6 (by decide) (by decide), w4 4 (by decide)]
              simp
            rw [this] at hn
            exact absurd hd hn
          · exact h0
        by_cases g5 : (5 : Int) ≤ i
        · rw [if_pos g5] at hx
          rcases stop (fun _ => trivial) hx with ⟨h1, h2, h3⟩ | ⟨h1, h2, h3⟩
          · have z0 : zd = 0 := by unfold Sq at hzd; omega
            rw [if_pos z0] at hm
            simp only [rtn, Prod.mk.injEq] at hm
            exact Or.inl (yes h1 h2 h3 hm)
          · have z0 : ¬ zd = 0 := by unfold Sq at hzd; omega
            rw [if_neg z0, if_neg (fun hh => hh (by omega))] at hm
            obtain ⟨y, Y, hy, -, -, hm⟩ := hm
            simp only [rtn, Prod.mk.injEq] at hm
            obtain ⟨k1, k2⟩ := q_wrong hy (by decide) (by omega)
            refine Or.inr ⟨h2, by omega, ?_⟩
            rw [h3, hm.2, k2, up2_s]
            exact ⟨by omega, by omega⟩
        · rw [if_neg g5] at hx
          obtain ⟨s, hs, hx⟩ := hx
          have hs := q_peek PP1 hs
          subst hs
          obtain ⟨d, hd, -, hx⟩ := hx
          have hd := q_rDigit hd
          by_cases g : d = 0
          · rw [if_pos g] at hx
            have hnd := hd.off g
            rcases stop (fun _ => trivial) hx with ⟨h1, h2, h3⟩ | ⟨h1, h2, h3⟩
            · have z0 : zd = 0 := by unfold Sq at hzd; omega
              rw [if_pos z0] at hm
              simp only [rtn, Prod.mk.injEq] at hm
              exact Or.inl (yes h1 h2 h3 hm)
            · exact absurd h1 hnd
          · rw [if_neg g] at hx
            have hyd := hd.on g
            have hlt := sgn_lt (W := W1) (by omega)
            have z0 : ¬ zd = 0 := by unfold Sq at hzd; omega
            rw [if_neg z0, if_pos (by omega)] at hm
            obtain ⟨s2, hs2, -, hm⟩ := hm
            have hs2 := q_here hs2
            subst hs2
            obtain ⟨W8, eW8, hm⟩ := rdb_g hm
            obtain ⟨W9, eW9, hm⟩ := rdb_g hm
            obtain ⟨x1, ex1, hx⟩ := rdb_g hx
            obtain ⟨s3, hs3, hx⟩ := hx
            have hs3 := q_peek PP1 hs3
            subst hs3
            obtain ⟨x2, ex2, hx⟩ := rdb_g hx
            obtain ⟨x3, ex3, hx⟩ := rdb_g hx
            obtain ⟨x4, ex4, hx⟩ := rdb_g hx
            obtain ⟨x5, ex5, hx⟩ := rdb_g hx
            obtain ⟨V9, eV9, hx⟩ := rdb_g hx
            rw [wr_id ⟨by omega, by omega⟩] at ex1
            rw [← ex1, wr_id ⟨by omega, by omega⟩] at ex2
            rw [← ex2, wr_id ⟨by omega, by omega⟩] at ex3
            rw [← ex4, v1, wr_id ⟨by omega, by omega⟩] at ex5
            rw [w3 6 (by decide) (by decide), w2] at hlt
            have hpow : (10 : Int) ^ (i + 1) = 10 * 10 ^ i := by rw [Int.pow_succ, Int.mul_comm]
            refine ih m (i + 1) x3 V9 W9 (by omega) ⟨by omega, by rw [hpow]; omega⟩ (by omega) ⟨?_, fun k hk => ?_, fun q hq => ?_⟩ ⟨?_, ?_, fun k k1 k2 => ?_, fun q hq => ?_⟩ (Or.inr (by omega)) (by rw [Int.natCast_add]; exact hx) hm
            · rw [← eV9, up2_s]; omega
            · rw [← eV9, up2_n _ _ (Or.inr hk)]; exact v2 k hk
            · rw [← eV9, up2_c _ _ hq]; exact v3 q hq
            · rw [← eW9, up2_n _ _ (Or.inr (by decide)), ← eW8, up2_s]; omega
            · rw [← eW9, up2_s]; omega
            · rw [← eW9, up2_n _ _ (Or.inr k1), ← eW8, up2_n _ _ (Or.inr k2)]; exact w3 k k1 k2
            · rw [← eW9, up2_c _ _ hq, ← eW8, up2_c _ _ hq]; exact w4 q hq
  refine key _ _ 0 0 V W3 (by decide) (by decide) (by omega) ⟨by omega, fun _ _ => rfl, fun _ _ => rfl⟩ ⟨?_, ?_, fun k k1 k2 => ?_, fun q hq => ?_⟩ (Or.inl rfl) hx hm
  · rw [← eW3, up2_s]
  · rw [← eW3, up2_n _ _ (Or.inr (by decide))]; omega
  · rw [← eW3, up2_n _ _ (Or.inr k2)]
  · rw [← eW3, up2_c _ _ hq]
end
section
-- reading: how the reference goes on within a sum (own work)
def fcB (J : Nat → Nat → Int) (Rr : Nat → Nat → Nat) : (((Nat → Nat → Int) → Int × (Nat → Nat → Int) → Prop) → (Nat → Nat → Int) → Int × (Nat → Nat → Int) → Prop) :=
  (fun rc51 (V51 : Nat → Nat → Int) => rdb (V51 0 5) fun z52 => fct (0 ≤ z52 ∧ z52 ≤ 220) <| rdb (V51 0 6) fun z53 => fct (0 ≤ z53 ∧ z53 ≤ 220) <| rdb (V51 0 10) fun z54 => fct (0 ≤ z54 ∧ z54 ≤ 220) <| rdb (V51 0 11) fun z55 => fct (0 ≤ z55 ∧ z55 ≤ 220) <| calR (f_m_here V51 J Rr) fun z56 => fct (-1 ≤ z56 ∧ z56 ≤ 255) <| (if ¬ z56 = 91 then calR (f_m_isDigit V51 J Rr) fun z58 => fct (0 ≤ z58 ∧ z58 ≤ 1) <| (if z58 = 0 then calR (f_m_here V51 J Rr) fun z61 => fct (-1 ≤ z61 ∧ z61 ≤ 255) <| calR (f_m_factOf z61) fun z62 => fct (-1 ≤ z62 ∧ z62 ≤ 12) <| (if ¬ z62 = (-1) then calUM 590295810358705652736 V51 (f_m_notes 1 z62 V51 J Rr) fun V64 => rdb (up2 V64 0 5 (z52 + 1)) fun V65 => rtn (1, V65) else calVM 128 V51 (f_m_wrongAt 1 z52 V51 J Rr) fun z66 V66 => fct (0 ≤ z66 ∧ z66 ≤ 0) <| rtn (z66, V66)) else calVM 416 V51 (f_m_readsNumber V51 J Rr) fun z68 V68 => fct (0 ≤ z68 ∧ z68 ≤ 1) <| (if ¬ z68 = 0 then rdb (V68 0 5) fun z71 => fct (0 ≤ z71 ∧ z71 ≤ 220) <| rdb (V68 0 8) fun z72 => calUM 590295810358705652736 V68 (f_m_notes 0 z72 V68 J Rr) fun V73 => rtn (1, V73) else rtn (0, V68))) else calVM 1180591620717411306144 V51 (f_m_opens 14 V51 J Rr) fun z74 V74 => fct (0 ≤ z74 ∧ z74 ≤ 1) <| (if ¬ z74 = 0 then rc51 V74 else rtn (0, V74))))
def smB (z4 : Int) (J : Nat → Nat → Int) (Rr : Nat → Nat → Nat) : (((Nat → Nat → Int) → Int × (Nat → Nat → Int) → Prop) → (Nat → Nat → Int) → Int × (Nat → Nat → Int) → Prop) :=
  (fun rc134 (V134 : Nat → Nat → Int) => rdb (V134 0 5) fun z135 => fct (0 ≤ z135 ∧ z135 ≤ 220) <| rdb (V134 0 6) fun z136 => fct (0 ≤ z136 ∧ z136 ≤ 220) <| rdb (V134 0 10) fun z137 => fct (0 ≤ z137 ∧ z137 ≤ 220) <| rdb (V134 0 11) fun z138 => fct (0 ≤ z138 ∧ z138 ≤ 220) <| calR (f_m_here V134 J Rr) fun z139 => fct (-1 ≤ z139 ∧ z139 ≤ 255) <| calR (f_m_sumSign z139) fun z140 => fct (-1 ≤ z140 ∧ z140 ≤ 6) <| (if z140 = (-1) then calR (f_m_here V134 J Rr) fun z142 => fct (-1 ≤ z142 ∧ z142 ≤ 255) <| (if ¬ z142 = 93 then calR (f_m_hasOpenSum z4 V134 J Rr) fun z144 => fct (0 ≤ z144 ∧ z144 ≤ 1) <| (if z144 = 0 then calUM 590295810358705654784 V134 (f_m_closesSums 1 V134 J Rr) fun V148 => rtn (1, V148) else calVM 128 V134 (f_m_wrongAt 1 z135 V134 J Rr) fun z150 V150 => fct (0 ≤ z150 ∧ z150 ≤ 0) <| rtn (z150, V150)) else calR (f_m_hasOpenSum z4 V134 J Rr) fun z151 => fct (0 ≤ z151 ∧ z151 ≤ 1) <| (if z151 = 0 then calR (f_m_hasOpenSum z4 V134 J Rr) fun z153 => fct (0 ≤ z153 ∧ z153 ≤ 1) <| (if z153 = 0 then calUM 590295810358705654784 V134 (f_m_closesSums 1 V134 J Rr) fun V157 => rtn (1, V157) else calVM 128 V134 (f_m_wrongAt 1 z135 V134 J Rr) fun z159 V159 => fct (0 ≤ z159 ∧ z159 ≤ 0) <| rtn (z159, V159)) else calUM 590295810358705654784 V134 (f_m_closesSums 1 V134 J Rr) fun V162 => rdb (V162 0 5) fun z163 => fct (0 ≤ z163 ∧ z163 ≤ 220) <| rdb (V162 0 6) fun z164 => fct (0 ≤ z164 ∧ z164 ≤ 220) <| rdb (V162 0 10) fun z165 => fct (0 ≤ z165 ∧ z165 ≤ 220) <| rdb (V162 0 11) fun z166 => fct (0 ≤ z166 ∧ z166 ≤ 220) <| rdb (up2 V162 0 11 (z166 - 1)) fun V168 => rdb (V168 0 9) fun z169 => rdb (wr (z169 - 1)) fun z170 => rdb (up2 V168 0 9 z170) fun V171 => rdb (up2 V171 0 5 (z163 + 1)) fun V172 => rc134 V172)) else (if 4 ≤ z140 then calUM 590295810358705654784 V134 (f_m_closesSums 0 V134 J Rr) fun V174 => rdb (V174 0 5) fun z175 => fct (0 ≤ z175 ∧ z175 ≤ 220) <| rdb (V174 0 6) fun z176 => fct (0 ≤ z176 ∧ z176 ≤ 220) <| rdb (V174 0 10) fun z177 => fct (0 ≤ z177 ∧ z177 ≤ 220) <| rdb (V174 0 11) fun z178 => fct (0 ≤ z178 ∧ z178 ≤ 220) <| rdb (up2 V174 6 z178.toNat (1048576 * z140)) fun V179 => rdb (up2 V179 0 11 (z178 + 1)) fun V180 => rdb (up2 V180 0 5 (z175 + 1)) fun V181 => calVM 1770887431076116959136 V181 (f_m_readsFactor V181 J Rr) fun z183 V183 => fct (0 ≤ z183 ∧ z183 ≤ 1) <| (if ¬ z183 = 0 then rc134 V183 else rtn (0, V183)) else calUM 590295810358705654784 V134 (f_m_closesSums 1 V134 J Rr) fun V186 => rdb (V186 0 5) fun z187 => fct (0 ≤ z187 ∧ z187 ≤ 220) <| rdb (V186 0 6) fun z188 => fct (0 ≤ z188 ∧ z188 ≤ 220) <| rdb (V186 0 10) fun z189 => fct (0 ≤ z189 ∧ z189 ≤ 220) <| rdb (V186 0 11) fun z190 => fct (0 ≤ z190 ∧ z190 ≤ 220) <| rdb (up2 V186 6 z190.toNat (1048576 * z140)) fun V191 => rdb (up2 V191 0 11 (z190 + 1)) fun V192 => rdb (up2 V192 0 5 (z187 + 1)) fun V193 => calVM 1770887431076116959136 V193 (f_m_readsFactor V193 J Rr) fun z195 V195 => fct (0 ≤ z195 ∧ z195 ≤ 1) <| (if ¬ z195 = 0 then rc134 V195 else rtn (0, V195)))))
/-- the sum goes on from its loop's head -/
def RB (z4 : Int) (J : Nat → Nat → Int) (R : Nat → Nat → Nat) (W : Nat → Nat → Int) (r : Int × (Nat → Nat → Int)) : Prop := ∃ n : Nat, lop1 n (smB z4 J R) W r
/-- the sum goes on with a factor -/
def RA (z4 : Int) (J : Nat → Nat → Int) (R : Nat → Nat → Nat) (W : Nat → Nat → Int) (r : Int × (Nat → Nat → Int)) : Prop := ∃ (n : Nat) (z : Int) (U : Nat → Nat → Int), lop1 n (fcB J R) W (z, U) ∧ (0 ≤ z ∧ z ≤ 1) ∧ (z = 0 → r = (0, U)) ∧ (z = 1 → RB z4 J R U r)
/-- a word is laid on the stack, a sign is passed -/
def pshd (W : Nat → Nat → Int) (s : Int) : Nat → Nat → Int := up2 (up2 (up2 W 6 (W 0 11).toNat (1048576 * s)) 0 11 (W 0 11 + 1)) 0 5 (W 0 5 + 1)
/-- a bracket is begun -/
def opnd (W : Nat → Nat → Int) (x : Int) : Nat → Nat → Int := up2 (up2 (up2 (up2 W 0 9 (W 0 9 + 1)) 6 (W 0 11).toNat (1048576 * x)) 0 11 (W 0 11 + 1)) 0 5 (W 0 5 + 1)
/-- a bracket is ended -/
def clsd (W : Nat → Nat → Int) : Nat → Nat → Int := up2 (up2 (up2 W 0 11 (W 0 11 - 1)) 0 9 (W 0 9 - 1)) 0 5 (W 0 5 + 1)
/-- a word is noted -/
def nted (W : Nat → Nat → Int) (w : Int) : Nat → Nat → Int := up2 (up2 W 5 (W 0 10).toNat w) 0 10 (W 0 10 + 1)
theorem q_readsSum {W J : Nat → Nat → Int} {R : Nat → Nat → Nat} {r : Int × (Nat → Nat → Int)} (h : f_m_readsSum W J R r) : RA (W 0 11) J R W r := by
  unfold f_m_readsSum at h
  obtain ⟨z1, -, -, h⟩ := rdb_g h
  obtain ⟨z2, -, -, h⟩ := rdb_g h
  obtain ⟨z3, -, -, h⟩ := rdb_g h
  obtain ⟨z4, e4, -, h⟩ := rdb_g h
  obtain ⟨z5, V5, h5, -, r5, h⟩ := h
  subst e4
  by_cases g : z5 = 0
  · rw [if_neg (fun hh => hh g)] at h
    exact ⟨_, z5, V5, h5, r5, fun _ => h, fun h1 => by omega⟩
  · rw [if_pos g] at h
    exact ⟨_, z5, V5, h5, r5, fun h0 => absurd h0 g, fun _ => ⟨_, h⟩⟩
theorem RA.opn {z4 : Int} {W J : Nat → Nat → Int} {R : Nat → Nat → Nat} {r : Int × (Nat → Nat → Int)} (h : RA z4 J R W r) (hs : sgnZ W = 91) (ho : 0 ≤ W 0 9 ∧ W 0 9 ≤ 6) : (W 0 9 = 6 ∧ ∃ X : Nat → Nat → Int, r = (0, X) ∧ X 0 7 = -5000 - W 0 5) ∨ (¬ W 0 9 = 6 ∧ RA z4 J R (opnd W 14) r) := by
  obtain ⟨n, z, U, h, hr, h0, h1⟩ := h
  cases n with
  | zero => exact False.elim h
  | succ n =>
    have h : fcB J R (lop1 n (fcB J R)) W (z, U) := h
    unfold fcB at h
    obtain ⟨z52, -, -, h⟩ := rdb_g h
    obtain ⟨z53, -, -, h⟩ := rdb_g h
    obtain ⟨z54, -, -, h⟩ := rdb_g h
    obtain ⟨z55, -, -, h⟩ := rdb_g h
    obtain ⟨s, hh, -, h⟩ := h
    have hh := q_here hh
    rw [if_neg (fun hq => hq (by omega))] at h
    obtain ⟨y, Y, hy, -, -, h⟩ := h
    rcases q_opens hy ho with ⟨k1, k2, k3⟩ | ⟨k1, k2, k3⟩
    · rw [if_neg (fun hq => hq k2)] at h
      simp only [rtn, Prod.mk.injEq] at h
      refine Or.inl ⟨k1, U, h0 h.1, ?_⟩
      rw [h.2, k3, up2_s]
    · rw [if_pos (by omega)] at h
      exact Or.inr ⟨k1, n, z, U, by rw [k3] at h; exact h, hr, h0, h1⟩
theorem RA.one {z4 : Int} {W J : Nat → Nat → Int} {R : Nat → Nat → Nat} {r : Int × (Nat → Nat → Int)} (h : RA z4 J R W r) (hs : ¬ sgnZ W = 91) (hp : 0 ≤ W 0 5 ∧ W 0 5 ≤ 200) :
    ((48 ≤ sgnZ W ∧ sgnZ W ≤ 57) ∧ ∃ (c : Int) (X : Nat → Nat → Int), f_m_readsNumber W J R (c, X) ∧ (c = 0 → r = (0, X)) ∧ (c = 1 → RB z4 J R (nted X (1048576 * 0 + X 0 8)) r)) ∨
    (¬ (48 ≤ sgnZ W ∧ sgnZ W ≤ 57) ∧ ((isL (sgnZ W) ∧ ∃ z : Int, ltr z (sgnZ W) ∧ RB z4 J R (up2 (nted W (1048576 * 1 + z)) 0 5 (W 0 5 + 1)) r) ∨ (¬ isL (sgnZ W) ∧ ∃ X : Nat → Nat → Int, r = (0, X) ∧ X 0 7 = -1000 - W 0 5))) := by
  obtain ⟨n, z, U, h, hr, h0, h1⟩ := h
  cases n with
  | zero => exact False.elim h
  | succ n =>
    have h : fcB J R (lop1 n (fcB J R)) W (z, U) := h
    unfold fcB at h
    obtain ⟨z52, e52, -, h⟩ := rdb_g h
    obtain ⟨z53, -, -, h⟩ := rdb_g h
    obtain ⟨z54, -, -, h⟩ := rdb_g h
    obtain ⟨z55, -, -, h⟩ := rdb_g h
    obtain ⟨s, hh, -, h⟩ := h
    have hh := q_here hh
    rw [if_pos (by omega)] at h
    obtain ⟨d, hd, -, h⟩ := h
    have hd := q_mDigit hd
    by_cases g : d = 0
    · rw [if_pos g] at h
      refine Or.inr ⟨hd.off g, ?_⟩
      obtain ⟨s2, hs2, -, h⟩ := h
      have hs2 := q_here hs2
      subst hs2
      obtain ⟨y, hy, -, h⟩ := h
      rcases q_factOf hy with ⟨k1, k2⟩ | ⟨k1, k2⟩
      · have kb := (ltr_fc k1).1
        rw [if_pos (by omega)] at h
        obtain ⟨Y, hY, -, h⟩ := h
        obtain ⟨Y2, eY2, h⟩ := rdb_g h
        simp only [rtn, Prod.mk.injEq] at h
        refine Or.inl ⟨k2, y, k1, ?_⟩
        have := h1 h.1
        rw [h.2, ← eY2, q_notes hY, ← e52] at this
        exact this
      · rw [if_neg (fun hq => hq k1)] at h
        obtain ⟨q, Y, hY, -, -, h⟩ := h
        simp only [rtn, Prod.mk.injEq] at h
        obtain ⟨k3, k4⟩ := q_wrong hY (by decide) (by omega)
        refine Or.inr ⟨k2, U, h0 (by omega), ?_⟩
        rw [h.2, k4, up2_s]
        omega
    · rw [if_neg g] at h
      refine Or.inl ⟨hd.on g, ?_⟩
      obtain ⟨c, X, hX, -, cr, h⟩ := h
      by_cases g2 : c = 0
      · rw [if_neg (fun hq => hq g2)] at h
        simp only [rtn, Prod.mk.injEq] at h
        exact ⟨c, X, hX, fun _ => by rw [← h.2]; exact h0 h.1, fun hc => by omega⟩
      · rw [if_pos g2] at h
        obtain ⟨z71, -, -, h⟩ := rdb_g h
        obtain ⟨z72, e72, h⟩ := rdb_g h
        obtain ⟨Y, hY, -, h⟩ := h
        simp only [rtn, Prod.mk.injEq] at h
        refine ⟨c, X, hX, fun hc => absurd hc g2, fun _ => ?_⟩
        have := h1 h.1
        rw [h.2, q_notes hY, ← e72] at this
        exact this
theorem RB.sg {z4 : Int} {W J : Nat → Nat → Int} {R : Nat → Nat → Nat} {r : Int × (Nat → Nat → Int)} (h : RB z4 J R W r) (hz4 : 0 ≤ z4) (ho : 0 ≤ W 0 9 ∧ W 0 9 ≤ 6) (hp : 0 ≤ W 0 5 ∧ W 0 5 ≤ 200) : ∃ s : Int, f_m_sumSign (sgnZ W) s ∧
    ((4 ≤ s ∧ s ≤ 6 ∧ ∃ X : Nat → Nat → Int, (∃ n : Nat, lop1 n (clB 0 J R) W X) ∧ RA z4 J R (pshd X s) r) ∨
     ((s = 2 ∨ s = 3) ∧ ∃ X : Nat → Nat → Int, (∃ n : Nat, lop1 n (clB 1 J R) W X) ∧ RA z4 J R (pshd X s) r) ∨
     (s = -1 ∧ ((sgnZ W = 93 ∧ (∃ j : Nat, z4 ≤ j ∧ (j : Int) < W 0 11 ∧ iDiv (W 6 j) 1048576 = 14) ∧ ∃ X : Nat → Nat → Int, (∃ n : Nat, lop1 n (clB 1 J R) W X) ∧ ((0 ≤ X 0 9 ∧ X 0 9 ≤ 6) → RB z4 J R (clsd X) r)) ∨
       ((∀ j : Nat, z4 ≤ j → (j : Int) < W 0 11 → ¬ iDiv (W 6 j) 1048576 = 14) ∧ ∃ X : Nat → Nat → Int, (∃ n : Nat, lop1 n (clB 1 J R) W X) ∧ r = (1, X)) ∨
       (¬ sgnZ W = 93 ∧ (∃ j : Nat, z4 ≤ j ∧ (j : Int) < W 0 11 ∧ iDiv (W 6 j) 1048576 = 14) ∧ ∃ X : Nat → Nat → Int, r = (0, X) ∧ X 0 7 = -1000 - W 0 5)))) := by
  obtain ⟨n, h⟩ := h
  cases n with
  | zero => exact False.elim h
  | succ n =>
    have h : smB z4 J R (lop1 n (smB z4 J R)) W r := h
    unfold smB at h
    obtain ⟨z135, e135, -, h⟩ := rdb_g h
    obtain ⟨z136, -, -, h⟩ := rdb_g h
    obtain ⟨z137, -, -, h⟩ := rdb_g h
    obtain ⟨z138, -, -, h⟩ := rdb_g h
    obtain ⟨c, hc, -, h⟩ := h
    have hc := q_here hc
    subst hc
    obtain ⟨s, hs, sr, h⟩ := h
    have hss := q_sumSign hs
    refine ⟨s, hs, ?_⟩
    have raf : ∀ (X : Nat → Nat → Int) (q : Int) (Y : Nat → Nat → Int), f_m_readsFactor X J R (q, Y) → (0 ≤ q ∧ q ≤ 1) → (q = 0 → r = (0, Y)) → (¬ q = 0 → lop1 n (smB z4 J R) Y r) → RA z4 J R X r := fun X q Y h1 h2 h3 h4 => ⟨_, q, Y, h1, h2, h3, fun hq => ⟨n, h4 (by omega)⟩⟩
    by_cases g : s = -1
    · rw [if_pos g] at h
      refine Or.inr (Or.inr ⟨g, ?_⟩)
      obtain ⟨c2, hc2, -, h⟩ := h
      have hc2 := q_here hc2
      subst hc2
      by_cases g93 : sgnZ W = 93
      · rw [if_neg (fun hq => hq g93)] at h
        obtain ⟨o, hoo, -, h⟩ := h
        rcases q_hasOpen hoo hz4 with ⟨k1, k2⟩ | ⟨k1, k2⟩
        · rw [if_neg (by omega)] at h
          obtain ⟨X, hX, -, h⟩ := h
          obtain ⟨z163, e163, -, h⟩ := rdb_g h
          obtain ⟨z164, -, -, h⟩ := rdb_g h
          obtain ⟨z165, -, -, h⟩ := rdb_g h
          obtain ⟨z166, e166, -, h⟩ := rdb_g h
          obtain ⟨V168, e168, h⟩ := rdb_g h
          obtain ⟨z169, e169, h⟩ := rdb_g h
          obtain ⟨z170, e170, h⟩ := rdb_g h
          obtain ⟨V171, e171, h⟩ := rdb_g h
          obtain ⟨V172, e172, h⟩ := rdb_g h
          refine Or.inl ⟨g93, k2, X, ⟨_, hX⟩, fun hx9 => ⟨n, ?_⟩⟩
          have e9 : z169 = X 0 9 := by rw [← e169, ← e168, up2_n _ _ (Or.inr (by decide))]
          rw [e9, wr_id ⟨by omega, by omega⟩] at e170
          have : V172 = clsd X := by rw [← e172, ← e171, ← e168, ← e170, ← e166, ← e163]; rfl
          rw [← this]
          exact h
        · rw [if_pos k1] at h
          obtain ⟨o2, hoo2, -, h⟩ := h
          rcases q_hasOpen hoo2 hz4 with ⟨l1, j, l2, l3, l4⟩ | ⟨l1, l2⟩
          · exact absurd l4 (k2 j l2 l3)
          · rw [if_pos l1] at h
            obtain ⟨X, hX, -, h⟩ := h
            exact Or.inr (Or.inl ⟨k2, X, ⟨_, hX⟩, h⟩)
      · rw [if_pos g93] at h
        obtain ⟨o, hoo, -, h⟩ := h
        rcases q_hasOpen hoo hz4 with ⟨k1, k2⟩ | ⟨k1, k2⟩
        · rw [if_neg (by omega)] at h
          obtain ⟨q, Y, hY, -, -, h⟩ := h
          obtain ⟨k3, k4⟩ := q_wrong hY (by decide) (by omega)
          refine Or.inr (Or.inr ⟨g93, k2, Y, ?_, ?_⟩)
          · have h : r = (q, Y) := h
            rw [h, k3]
          · rw [k4, up2_s]; omega
        · rw [if_pos k1] at h
          obtain ⟨X, hX, -, h⟩ := h
          exact Or.inr (Or.inl ⟨k2, X, ⟨_, hX⟩, h⟩)
    · rw [if_neg g] at h
      by_cases g4 : 4 ≤ s
      · rw [if_pos g4] at h
        obtain ⟨X, hX, -, h⟩ := h
        obtain ⟨z175, e175, -, h⟩ := rdb_g h
        obtain ⟨z176, -, -, h⟩ := rdb_g h
        obtain ⟨z177, -, -, h⟩ := rdb_g h
        obtain ⟨z178, e178, -, h⟩ := rdb_g h
        obtain ⟨V179, e179, h⟩ := rdb_g h
        obtain ⟨V180, e180, h⟩ := rdb_g h
        obtain ⟨V181, e181, h⟩ := rdb_g h
        obtain ⟨q, Y, hY, -, qr, h⟩ := h
        refine Or.inl ⟨g4, by omega, X, ⟨_, hX⟩, ?_⟩
        have : V181 = pshd X s := by rw [← e181, ← e180, ← e179, ← e178, ← e175]; rfl
        rw [← this]
        refine raf V181 q Y hY qr (fun hq => ?_) (fun hq => ?_)
        · rw [if_neg (fun hh => hh hq)] at h; exact h
        · rw [if_pos hq] at h; exact h
      · rw [if_neg g4] at h
        obtain ⟨X, hX, -, h⟩ := h
        obtain ⟨z187, e187, -, h⟩ := rdb_g h
        obtain ⟨z188, -, -, h⟩ := rdb_g h
        obtain ⟨z189, -, -, h⟩ := rdb_g h
        obtain ⟨z190, e190, -, h⟩ := rdb_g h
        obtain ⟨V191, e191, h⟩ := rdb_g h
        obtain ⟨V192, e192, h⟩ := rdb_g h
        obtain ⟨V193, e193, h⟩ := rdb_g h
        obtain ⟨q, Y, hY, -, qr, h⟩ := h
        refine Or.inr (Or.inl ⟨by omega, X, ⟨_, hX⟩, ?_⟩)
        have : V193 = pshd X s := by rw [← e193, ← e192, ← e191, ← e190, ← e187]; rfl
        rw [← this]
        refine raf V193 q Y hY qr (fun hq => ?_) (fun hq => ?_)
        · rw [if_neg (fun hh => hh hq)] at h; exact h
        · rw [if_pos hq] at h; exact h
end
section
-- reading: sums, on both sides (own work)
/-- a sum's steps from f to t: the stack's height ahead of each, k at most -/
def SG (s : Nat → Int) (f t k : Int) : Prop := 0 ≤ f ∧ f < t ∧ 1 ≤ k ∧ ∃ τ : Int → Int, τ f = 0 ∧ τ t = 1 ∧ ∀ z : Int, f ≤ z → z < t → ((s z.toNat % 16 = 0 ∨ s z.toNat % 16 = 1) ∧ 0 ≤ τ z ∧ τ z + 1 ≤ k ∧ τ (z + 1) = τ z + 1) ∨ (2 ≤ s z.toNat % 16 ∧ s z.toNat % 16 ≤ 6 ∧ 2 ≤ τ z ∧ τ z ≤ k ∧ τ (z + 1) = τ z - 1)
theorem SG.cg {s u : Nat → Int} {f t k : Int} (h : SG s f t k) (e : ∀ j : Nat, f ≤ j → (j : Int) < t → u j = s j) : SG u f t k := by
  obtain ⟨h1, h2, h3, τ, h4, h5, h6⟩ := h
  refine ⟨h1, h2, h3, τ, h4, h5, fun z a b => ?_⟩
  rw [e z.toNat (by omega) (by omega)]
  exact h6 z a b
theorem SG.up {s : Nat → Int} {f t k l : Int} (h : SG s f t k) (e : k ≤ l) : SG s f t l := by
  obtain ⟨h1, h2, h3, τ, h4, h5, h6⟩ := h
  refine ⟨h1, h2, by omega, τ, h4, h5, fun z a b => ?_⟩
  have := h6 z a b
  omega
theorem SG.one {s : Nat → Int} {f k : Int} (h0 : 0 ≤ f) (hk : 1 ≤ k) (h : s f.toNat % 16 = 0 ∨ s f.toNat % 16 = 1) : SG s f (f + 1) k :=
  ⟨h0, by omega, hk, fun z => z - f, by show f - f = 0; omega, by show f + 1 - f = 1; omega, fun z a b => Or.inl (by
    have e : z = f := by omega
    subst e
    refine ⟨h, ?_, ?_, ?_⟩
    · show 0 ≤ z - z
      omega
    · show z - z + 1 ≤ k
      omega
    · show z + 1 - z = z - z + 1
      omega)⟩
theorem SG.op {s : Nat → Int} {f m u k l : Int} (h : SG s f m k) (g : SG s m u l) (ho : 2 ≤ s u.toNat % 16 ∧ s u.toNat % 16 ≤ 6) (hk : l + 1 ≤ k) : SG s f (u + 1) k := by
  obtain ⟨h1, h2, h3, τ, h4, h5, h6⟩ := h
  obtain ⟨g1, g2, g3, σ, g4, g5, g6⟩ := g
  refine ⟨h1, by omega, h3, fun z => if z ≤ m then τ z else if z ≤ u then σ z + 1 else 1, ?_, ?_, fun z a b => ?_⟩
  · show (if f ≤ m then τ f else _) = 0
    rw [if_pos (by omega)]; exact h4
  · show (if u + 1 ≤ m then τ (u + 1) else if u + 1 ≤ u then σ (u + 1) + 1 else 1) = 1
    rw [if_neg (by omega), if_neg (by omega)]
  · show ((s z.toNat % 16 = 0 ∨ s z.toNat % 16 = 1) ∧ 0 ≤ (if z ≤ m then τ z else if z ≤ u then σ z + 1 else 1) ∧ (if z ≤ m then τ z else if z ≤ u then σ z + 1 else 1) + 1 ≤ k ∧ (if z + 1 ≤ m then τ (z + 1) else if z + 1 ≤ u then σ (z + 1) + 1 else 1) = (if z ≤ m then τ z else if z ≤ u then σ z + 1 else 1) + 1) ∨ (2 ≤ s z.toNat % 16 ∧ s z.toNat % 16 ≤ 6 ∧ 2 ≤ (if z ≤ m then τ z else if z ≤ u then σ z + 1 else 1) ∧ (if z ≤ m then τ z else if z ≤ u then σ z + 1 else 1) ≤ k ∧ (if z + 1 ≤ m then τ (z + 1) else if z + 1 ≤ u then σ (z + 1) + 1 else 1) = (if z ≤ m then τ z else if z ≤ u then σ z + 1 else 1) - 1)
    by_cases a1 : z + 1 ≤ m
    · rw [if_pos (by omega), if_pos a1]
      exact h6 z a (by omega)
    · by_cases a2 : z = m
      · subst a2
        rw [if_pos (by omega), if_neg a1, if_pos (by omega), h5]
        have := g6 z (by omega) (by omega)
        rw [g4] at this
        omega
      · by_cases a3 : z = u
        · subst a3
          rw [if_neg (by omega), if_pos (by omega), if_neg a1, if_neg (by omega), g5]
          omega
        · rw [if_neg (by omega), if_pos (by omega), if_neg a1, if_pos (by omega)]
          have := g6 z (by omega) (by omega)
          omega
/-- the first side's code grows by a sum -/
def GR (t : Nat) (V U : Nat → Nat → Int) (k : Int) : Prop := (∀ j : Nat, (j : Int) < V t 1 → U (t + 1) j = V (t + 1) j) ∧ SG (U (t + 1)) (V t 1) (U t 1) k
theorem GR.up {t : Nat} {V U : Nat → Nat → Int} {k l : Int} (h : GR t V U k) (e : k ≤ l) : GR t V U l := ⟨h.1, h.2.up e⟩
theorem GR.cg {t : Nat} {V V1 U U1 : Nat → Nat → Int} {k : Int} (h : GR t V1 U1 k) (e1 : V1 t 1 = V t 1) (e2 : V1 (t + 1) = V (t + 1)) (e3 : U t 1 = U1 t 1) (e4 : U (t + 1) = U1 (t + 1)) : GR t V U k := by
  unfold GR at h ⊢
  rw [e1, e2] at h
  rw [e3, e4]
  exact h
theorem GR.one {t : Nat} {V U : Nat → Nat → Int} {k x : Int} (h0 : 0 ≤ V t 1) (hk : 1 ≤ k) (e1 : U t 1 = V t 1 + 1) (e2 : ∀ j : Nat, U (t + 1) j = if j = (V t 1).toNat then x else V (t + 1) j) (hx : x % 16 = 0 ∨ x % 16 = 1) : GR t V U k := by
  refine ⟨fun j hj => by rw [e2, if_neg (by omega)], ?_⟩
  rw [e1]
  exact SG.one h0 hk (by rw [e2, if_pos rfl]; exact hx)
theorem GR.op {t : Nat} {V V2 V3 V4 : Nat → Nat → Int} {k l o : Int} (h : GR t V V2 k) (e1 : V3 t 1 = V2 t 1) (e2 : V3 (t + 1) = V2 (t + 1)) (g : GR t V3 V4 l) (ho : 2 ≤ o ∧ o ≤ 6) (hk : l + 1 ≤ k) : GR t V (up2 (up2 V4 (t + 1) (V4 t 1).toNat (o + 16 * 0)) t 1 (V4 t 1 + 1)) k := by
  obtain ⟨h1, h2⟩ := h
  obtain ⟨g1, g2⟩ := g
  rw [e1, e2] at g1
  rw [e1] at g2
  have l1 := h2.2.1
  have l0 := h2.1
  have l2 := g2.2.1
  have e5 : ∀ j : Nat, (j : Int) < V4 t 1 → (up2 (up2 V4 (t + 1) (V4 t 1).toNat (o + 16 * 0)) t 1 (V4 t 1 + 1)) (t + 1) j = V4 (t + 1) j := fun j hj => by
    rw [up2_n _ _ (Or.inl (by omega)), up2_n _ _ (Or.inr (by omega))]
  refine ⟨fun j hj => ?_, ?_⟩
  · rw [e5 j (by omega), g1 j (by omega), h1 j hj]
  · rw [up2_s]
    refine SG.op (m := V2 t 1) (l := l) (h2.cg fun j a b => by rw [e5 j (by omega), g1 j b]) (g2.cg fun j a b => e5 j b) ?_ hk
    rw [up2_n _ _ (Or.inl (by omega)), up2_s]
    omega
def termX (fac : ((Nat → Nat → Int) → (Nat → Nat → Int) → (Nat → Nat → Nat) → Int × (Nat → Nat → Int) → Prop)) (V : Nat → Nat → Int) (J : Nat → Nat → Int) (Rr : Nat → Nat → Nat) : (Int × (Nat → Nat → Int)) → Prop :=
  calVX (fun i k : Nat => (72 ≤ i ∧ i ≤ 72) ∨ (Rr 72 1 ≤ i ∧ i ≤ Rr 72 1 + 4)) V (fac V J Rr) fun z1 V1 => fct (0 ≤ z1 ∧ z1 ≤ 1) <| (if ¬ z1 = 0 then lop2 (202) (fun rc85 (z83 : Int) (V85 : Nat → Nat → Int) => (if 200 ≤ z83 then rtn (1, V85) else calR (f_r_peek V85 J Rr) fun z100 => calR (f_r_stepOf z100) fun z101 => fct (-1 ≤ z101 ∧ z101 ≤ 9) <| (if z101 < 4 then rtn (1, V85) else (if z101 ≤ 6 then rdb (V85 72 2) fun z104 => rdb (wr (z104 + 1)) fun z105 => rdb (up2 V85 72 2 z105) fun V106 => calVX (fun i k : Nat => (72 ≤ i ∧ i ≤ 72) ∨ (Rr 72 1 ≤ i ∧ i ≤ Rr 72 1 + 4)) V106 (fac V106 J Rr) fun z107 V107 => fct (0 ≤ z107 ∧ z107 ≤ 1) <| (if ¬ z107 = 0 then rdb (Rr 72 1) fun t110 => calUX (fun i k : Nat => (t110 ≤ i ∧ i ≤ t110 + 4)) V107 (f_r_put t110 z101 0 V107 J Rr) fun V111 => rc85 (z83 + 1) V111 else rtn (0, V107)) else rtn (1, V85))))) 0 V1 else rtn (0, V1))
def sumX (trm : ((Nat → Nat → Int) → (Nat → Nat → Int) → (Nat → Nat → Nat) → Int × (Nat → Nat → Int) → Prop)) (V : Nat → Nat → Int) (J : Nat → Nat → Int) (Rr : Nat → Nat → Nat) : (Int × (Nat → Nat → Int)) → Prop :=
  calVX (fun i k : Nat => (72 ≤ i ∧ i ≤ 72) ∨ (Rr 72 1 ≤ i ∧ i ≤ Rr 72 1 + 4)) V (trm V J Rr) fun z1 V1 => fct (0 ≤ z1 ∧ z1 ≤ 1) <| (if ¬ z1 = 0 then lop2 (202) (fun rc133 (z131 : Int) (V133 : Nat → Nat → Int) => (if 200 ≤ z131 then rtn (1, V133) else calR (f_r_peek V133 J Rr) fun z156 => calR (f_r_stepOf z156) fun z157 => fct (-1 ≤ z157 ∧ z157 ≤ 9) <| (if z157 = 2 then rdb (V133 72 2) fun z159 => rdb (wr (z159 + 1)) fun z160 => rdb (up2 V133 72 2 z160) fun V161 => calVX (fun i k : Nat => (72 ≤ i ∧ i ≤ 72) ∨ (Rr 72 1 ≤ i ∧ i ≤ Rr 72 1 + 4)) V161 (trm V161 J Rr) fun z162 V162 => fct (0 ≤ z162 ∧ z162 ≤ 1) <| (if ¬ z162 = 0 then rdb (Rr 72 1) fun t165 => calUX (fun i k : Nat => (t165 ≤ i ∧ i ≤ t165 + 4)) V162 (f_r_put t165 z157 0 V162 J Rr) fun V166 => rc133 (z131 + 1) V166 else rtn (0, V162)) else (if z157 = 3 then rdb (V133 72 2) fun z168 => rdb (wr (z168 + 1)) fun z169 => rdb (up2 V133 72 2 z169) fun V170 => calVX (fun i k : Nat => (72 ≤ i ∧ i ≤ 72) ∨ (Rr 72 1 ≤ i ∧ i ≤ Rr 72 1 + 4)) V170 (trm V170 J Rr) fun z171 V171 => fct (0 ≤ z171 ∧ z171 ≤ 1) <| (if ¬ z171 = 0 then rdb (Rr 72 1) fun t174 => calUX (fun i k : Nat => (t174 ≤ i ∧ i ≤ t174 + 4)) V171 (f_r_put t174 z157 0 V171 J Rr) fun V175 => rc133 (z131 + 1) V175 else rtn (0, V171)) else rtn (1, V133))))) 0 V1 else rtn (0, V1))
def factX (PB : (Nat → Nat → Nat) → Nat → Nat → Prop) (brk : Int → ((Nat → Nat → Int) → (Nat → Nat → Int) → (Nat → Nat → Nat) → Int × (Nat → Nat → Int) → Prop)) (V : Nat → Nat → Int) (J : Nat → Nat → Int) (Rr : Nat → Nat → Nat) : (Int × (Nat → Nat → Int)) → Prop :=
  calR (f_r_peek V J Rr) fun z1 => (if ¬ z1 = 91 then calR (f_r_isDigit z1) fun z3 => fct (0 ≤ z3 ∧ z3 ≤ 1) <| (if z3 = 0 then (if z1 < 0 then calVX (fun i k : Nat => (72 ≤ i ∧ i ≤ 72)) V (f_r_fail 1 V J Rr) fun z6 V6 => fct (0 ≤ z6 ∧ z6 ≤ 0) <| rtn (z6, V6) else rdb (iC z1) fun z7 => fct (0 ≤ z7 ∧ z7 ≤ 65535) <| calR (f_j_indexOf 1 z7) fun z8 => (if 0 ≤ z8 then rdb (Rr 72 1) fun t10 => calUX (fun i k : Nat => (t10 ≤ i ∧ i ≤ t10 + 4)) V (f_r_put t10 1 (z1 - 97) V J Rr) fun V11 => rdb (V11 72 2) fun z12 => rdb (wr (z12 + 1)) fun z13 => rdb (up2 V11 72 2 z13) fun V14 => rtn (1, V14) else calVX (fun i k : Nat => (72 ≤ i ∧ i ≤ 72)) V (f_r_fail 1 V J Rr) fun z15 V15 => fct (0 ≤ z15 ∧ z15 ≤ 0) <| rtn (z15, V15))) else calVX (fun i k : Nat => (72 ≤ i ∧ i ≤ 72) ∨ (Rr 72 1 ≤ i ∧ i ≤ Rr 72 1 + 4)) V (f_r_number V J Rr) fun z16 V16 => fct (0 ≤ z16 ∧ z16 ≤ 1) <| rtn (z16, V16)) else calVX (PB Rr) V (brk 93 V J Rr) fun z17 V17 => fct (0 ≤ z17 ∧ z17 ≤ 1) <| rtn (z17, V17))
def brkX (d : Int) (ent sm cnd : ((Nat → Nat → Int) → (Nat → Nat → Int) → (Nat → Nat → Nat) → Int × (Nat → Nat → Int) → Prop)) (x1 : Int) (V : Nat → Nat → Int) (J : Nat → Nat → Int) (Rr : Nat → Nat → Nat) : (Int × (Nat → Nat → Int)) → Prop :=
  calVX (fun i k : Nat => (72 ≤ i ∧ i ≤ 72)) V (ent V J Rr) fun z1 V1 => fct (0 ≤ z1 ∧ z1 ≤ 1) <| (if ¬ z1 = 0 then (if ¬ x1 = 41 then calVX (fun i k : Nat => (72 ≤ i ∧ i ≤ 72) ∨ (Rr 72 1 ≤ i ∧ i ≤ Rr 72 1 + 4)) V1 (sm V1 J Rr) fun z5 V5 => fct (0 ≤ z5 ∧ z5 ≤ 1) <| (if z5 = 0 then rtn (0, V5) else calVX (fun i k : Nat => (72 ≤ i ∧ i ≤ 72)) V5 (f_r_sign x1 V5 J Rr) fun z8 V8 => fct (0 ≤ z8 ∧ z8 ≤ 1) <| (if ¬ z8 = 0 then rdb (up2 V8 72 4 d) fun V10 => rtn (1, V10) else rtn (0, V8))) else calVX (fun i k : Nat => (72 ≤ i ∧ i ≤ 72) ∨ (Rr 72 1 ≤ i ∧ i ≤ Rr 72 1 + 4)) V1 (cnd V1 J Rr) fun z11 V11 => fct (0 ≤ z11 ∧ z11 ≤ 1) <| (if z11 = 0 then rtn (0, V11) else calVX (fun i k : Nat => (72 ≤ i ∧ i ≤ 72)) V11 (f_r_sign x1 V11 J Rr) fun z14 V14 => fct (0 ≤ z14 ∧ z14 ≤ 1) <| (if ¬ z14 = 0 then rdb (up2 V14 72 4 d) fun V16 => rtn (1, V16) else rtn (0, V14)))) else rtn (0, V1))
theorem fx_term0 : f_r_term0 = termX f_r_factor0 := rfl
theorem fx_sum0 : f_r_sum0 = sumX f_r_term0 := rfl
theorem fx_fact0 : f_r_factor0 = factX (fun Rr i _ => (72 ≤ i ∧ i ≤ 72) ∨ (Rr 72 1 ≤ i ∧ i ≤ Rr 72 1 + 4)) f_r_bracket0 := rfl
theorem fx_brk0 : f_r_bracket0 = brkX 0 f_r_enter0 f_r_sum1 f_r_condition1 := rfl
theorem fx_term1 : f_r_term1 = termX f_r_factor1 := rfl
theorem fx_sum1 : f_r_sum1 = sumX f_r_term1 := rfl
theorem fx_fact1 : f_r_factor1 = factX (fun Rr i _ => (72 ≤ i ∧ i ≤ 72) ∨ (Rr 72 1 ≤ i ∧ i ≤ Rr 72 1 + 4)) f_r_bracket1 := rfl
theorem fx_brk1 : f_r_bracket1 = brkX 1 f_r_enter1 f_r_sum2 f_r_condition2 := rfl
theorem fx_term2 : f_r_term2 = termX f_r_factor2 := rfl
theorem fx_sum2 : f_r_sum2 = sumX f_r_term2 := rfl
theorem fx_fact2 : f_r_factor2 = factX (fun Rr i _ => (72 ≤ i ∧ i ≤ 72) ∨ (Rr 72 1 ≤ i ∧ i ≤ Rr 72 1 + 4)) f_r_bracket2 := rfl
theorem fx_brk2 : f_r_bracket2 = brkX 2 f_r_enter2 f_r_sum3 f_r_condition3 := rfl
theorem fx_term3 : f_r_term3 = termX f_r_factor3 := rfl
theorem fx_sum3 : f_r_sum3 = sumX f_r_term3 := rfl
theorem fx_fact3 : f_r_factor3 = factX (fun Rr i _ => (72 ≤ i ∧ i ≤ 72) ∨ (Rr 72 1 ≤ i ∧ i ≤ Rr 72 1 + 4)) f_r_bracket3 := rfl
theorem fx_brk3 : f_r_bracket3 = brkX 3 f_r_enter3 f_r_sum4 f_r_condition4 := rfl
theorem fx_term4 : f_r_term4 = termX f_r_factor4 := rfl
theorem fx_sum4 : f_r_sum4 = sumX f_r_term4 := rfl
theorem fx_fact4 : f_r_factor4 = factX (fun Rr i _ => (72 ≤ i ∧ i ≤ 72) ∨ (Rr 72 1 ≤ i ∧ i ≤ Rr 72 1 + 4)) f_r_bracket4 := rfl
theorem fx_brk4 : f_r_bracket4 = brkX 4 f_r_enter4 f_r_sum5 f_r_condition5 := rfl
theorem fx_term5 : f_r_term5 = termX f_r_factor5 := rfl
theorem fx_sum5 : f_r_sum5 = sumX f_r_term5 := rfl
theorem fx_fact5 : f_r_factor5 = factX (fun Rr i _ => (72 ≤ i ∧ i ≤ 72) ∨ (Rr 72 1 ≤ i ∧ i ≤ Rr 72 1 + 4)) f_r_bracket5 := rfl
theorem fx_brk5 : f_r_bracket5 = brkX 5 f_r_enter5 f_r_sum6 f_r_condition6 := rfl
theorem fx_term6 : f_r_term6 = termX f_r_factor6 := rfl
theorem fx_sum6 : f_r_sum6 = sumX f_r_term6 := rfl
theorem fx_fact6 : f_r_factor6 = factX (fun _ i _ => 72 ≤ i ∧ i ≤ 72) f_r_bracket6 := rfl
/-- the state of the reading on both sides: signs not landed, code, how far the code is behind the signs -/
def RS1 (t : Nat) (d s : Int) (V W : Nat → Nat → Int) (L : List Int) : Prop := PP V W ∧ CA t V W L ∧ V 72 4 = d ∧ W 0 9 = d ∧ 0 ≤ s ∧ V t 1 + s ≤ W 0 5
/-- what the reference leaves as it was -/
def KM (n : Int) (W X : Nat → Nat → Int) : Prop := (∀ j : Nat, (j : Int) < n → X 6 j = W 6 j) ∧ (∀ i : Nat, i ≠ 0 → i ≠ 5 → i ≠ 6 → X i = W i) ∧ X 0 6 = W 0 6 ∧ X 0 12 = W 0 12 ∧ X 0 4 = W 0 4
/-- what the first side leaves as it was -/
def KX (t : Nat) (V U : Nat → Nat → Int) : Prop := (∀ i : Nat, i ≠ 72 → i ≠ t → i ≠ t + 1 → U i = V i) ∧ (∀ k : Nat, k ≠ 1 → U t k = V t k) ∧ U 72 3 = V 72 3
theorem KM.rf {n : Int} {W : Nat → Nat → Int} : KM n W W := ⟨fun _ _ => rfl, fun _ _ _ _ => rfl, rfl, rfl, rfl⟩
theorem KM.tr {n m : Int} {W X Y : Nat → Nat → Int} (h : KM n W X) (k : KM m X Y) (hn : n ≤ m) : KM n W Y := ⟨fun j hj => (k.1 j (by omega)).trans (h.1 j hj), fun i a b c => (k.2.1 i a b c).trans (h.2.1 i a b c), k.2.2.1.trans h.2.2.1, k.2.2.2.1.trans h.2.2.2.1, k.2.2.2.2.trans h.2.2.2.2⟩
theorem KX.rf {t : Nat} {V : Nat → Nat → Int} : KX t V V := ⟨fun _ _ _ _ => rfl, fun _ _ => rfl, rfl⟩
theorem KX.tr {t : Nat} {V U Y : Nat → Nat → Int} (h : KX t V U) (k : KX t U Y) : KX t V Y := ⟨fun i a b c => (k.1 i a b c).trans (h.1 i a b c), fun q hq => (k.2.1 q hq).trans (h.2.1 q hq), k.2.2.trans h.2.2⟩
theorem KM.fold {n : Int} {W : Nat → Nat → Int} (P : List Int) : KM n W (P.foldl clo W) := ⟨fun j _ => by rw [fold_r (by decide) (by decide)], fun i a b c => fold_r a b P W, fold_0 (by decide) (by decide) P W, fold_0 (by decide) (by decide) P W, fold_0 (by decide) (by decide) P W⟩
theorem KM.push {n s : Int} {W : Nat → Nat → Int} (hn : n ≤ W 0 11) (h0 : 0 ≤ W 0 11) : KM n W (pshd W s) := by
  unfold pshd
  refine ⟨fun j hj => ?_, fun i a b c => ?_, ?_, ?_, ?_⟩
  · rw [up2_n _ _ (Or.inl (by decide)), up2_n _ _ (Or.inl (by decide)), up2_n _ _ (Or.inr (by omega))]
  · rw [up2_c _ _ a, up2_c _ _ a, up2_c _ _ c]
  all_goals rw [up2_n _ _ (Or.inr (by decide)), up2_n _ _ (Or.inr (by decide)), up2_n _ _ (Or.inl (by decide))]
theorem PP.to {V W V2 W2 : Nat → Nat → Int} (h : PP V W) (h1 : V2 72 2 = W2 0 5) (h2 : V2 72 3 = V 72 3) (h3 : W2 0 6 = W 0 6) (h4 : 0 ≤ W2 0 5 ∧ W2 0 5 ≤ W 0 6) (h5 : V2 58 = V 58) (h6 : V2 59 = V 59) (h7 : W2 4 = W 4) : PP V2 W2 := by
  obtain ⟨p1, p2, p3, p4⟩ := h
  refine ⟨h1, by rw [h2, h3]; exact p2, ⟨h4.1, by omega, by omega, by rw [h3, h5]; exact p3.2.2.2⟩, fun k hk => ?_⟩
  rw [h6, h7]
  exact p4 k (by omega)
theorem CA.to {t : Nat} {V W V2 W2 : Nat → Nat → Int} {L : List Int} (h : CA t V W L) (h1 : V2 t 1 = V t 1) (h2 : V2 (t + 1) = V (t + 1)) (h3 : W2 0 10 = W 0 10) (h4 : W2 5 = W 5) : CA t V2 W2 L := by
  obtain ⟨a, b, c, e⟩ := h
  refine ⟨by omega, by rw [h1, h3]; exact b, fun k hk => ?_, fun i hi => ?_⟩
  · rw [h2, h4]; exact c k (by omega)
  · rw [h2, h3]; exact e i hi
theorem getD_app {L : List Int} {o : Int} {i : Nat} (h : i < L.length) : (L ++ [o]).getD i 0 = L.getD i 0 := by
  rw [List.getD_eq_getElem?_getD, List.getD_eq_getElem?_getD, List.getElem?_append_left h]
theorem getD_end {L : List Int} {o : Int} : (L ++ [o]).getD L.length 0 = o := by
  rw [List.getD_eq_getElem?_getD, List.getElem?_append_right (Nat.le_refl _)]
  simp
/-- the first side puts an operator -/
theorem CA.put {t : Nat} {V W : Nat → Nat → Int} {L : List Int} {o : Int} (h : CA t V W L) : CA t (up2 (up2 V (t + 1) (V t 1).toNat (o + 16 * 0)) t 1 (V t 1 + 1)) W (L ++ [o]) := by
  obtain ⟨a, b, c, e⟩ := h
  have es : (V t 1).toNat = (W 0 10).toNat + L.length := by omega
  refine ⟨a, ?_, fun k hk => ?_, fun i hi => ?_⟩
  · rw [up2_s, b]; simp; omega
  · rw [up2_n _ _ (Or.inl (by omega)), up2_n _ _ (Or.inr (by omega))]; exact c k hk
  · rw [up2_n _ _ (Or.inl (by omega)), es]
    simp only [List.length_append, List.length_cons, List.length_nil] at hi
    by_cases g : i = L.length
    · subst g
      rw [up2_s, getD_end]; omega
    · rw [up2_n _ _ (Or.inr (by omega)), getD_app (by omega)]
      exact e i (by omega)
/-- both put a step -/
theorem CA.both {t : Nat} {V W W2 : Nat → Nat → Int} {x w : Int} (h : CA t V W []) (hx : stw x w) (h1 : W2 0 10 = W 0 10 + 1) (h2 : ∀ k : Nat, W2 5 k = if k = (W 0 10).toNat then w else W 5 k) : CA t (up2 (up2 V (t + 1) (V t 1).toNat x) t 1 (V t 1 + 1)) W2 [] := by
  obtain ⟨a, b, c, e⟩ := h
  simp only [List.length_nil, Int.natCast_zero, Int.add_zero] at b
  refine ⟨by omega, ?_, fun k hk => ?_, fun i hi => by simp at hi⟩
  · rw [up2_s]; simp; omega
  · rw [up2_n _ _ (Or.inl (by omega)), h2, b]
    by_cases g : k = (W 0 10).toNat
    · subst g
      rw [up2_s, if_pos rfl]; exact hx
    · rw [up2_n _ _ (Or.inr g), if_neg g]
      exact c k (by omega)
/-- the end of a part of a text that is wrong: the same fault -/
def BAD (a : Int) (U : Nat → Nat → Int) (r : Int × (Nat → Nat → Int)) : Prop := a = 0 ∧ ∃ X : Nat → Nat → Int, r = (0, X) ∧ FLT (U 72 5) (X 0 7)
def FACS (d : Int) (fac : ((Nat → Nat → Int) → (Nat → Nat → Int) → (Nat → Nat → Nat) → Int × (Nat → Nat → Int) → Prop)) : Prop := ∀ (t : Nat) (s z4 a : Int) (V W J Jm U : Nat → Nat → Int) (R Rm : Nat → Nat → Nat) (r : Int × (Nat → Nat → Int)), isTx t → R 72 1 = t → RS1 t d s V W [] → (0 ≤ z4 ∧ z4 ≤ W 0 11) → fac V J R (a, U) → RA z4 Jm Rm W r →
  (a = 1 ∧ ∃ X : Nat → Nat → Int, RB z4 Jm Rm X r ∧ RS1 t d s U X [] ∧ X 0 11 = W 0 11 ∧ KM (W 0 11) W X ∧ KX t V U ∧ W 0 5 < X 0 5 ∧ GR t V U (13 - 2 * d)) ∨ BAD a U r
/-- nothing of a sum waits right below b -/
def bot (W : Nat → Nat → Int) (b : Int) : Prop := b = 0 ∨ ¬ (2 ≤ iDiv (W 6 (b - 1).toNat) 1048576 ∧ iDiv (W 6 (b - 1).toNat) 1048576 ≤ 6)
def TRMS (d : Int) (trm : ((Nat → Nat → Int) → (Nat → Nat → Int) → (Nat → Nat → Nat) → Int × (Nat → Nat → Int) → Prop)) : Prop := ∀ (t : Nat) (s z4 b a : Int) (A : List Int) (V W J Jm U : Nat → Nat → Int) (R Rm : Nat → Nat → Nat) (r : Int × (Nat → Nat → Int)), isTx t → R 72 1 = t → RS1 t d s V W [] → (A = [] ∨ A = [2] ∨ A = [3]) → WS W b A → bot W b → (0 ≤ z4 ∧ z4 ≤ b) → trm V J R (a, U) → RA z4 Jm Rm W r →
  (a = 1 ∧ ∃ (X : Nat → Nat → Int) (M : List Int), (M = [] ∨ ∃ m : Int, M = [m] ∧ 4 ≤ m ∧ m ≤ 6) ∧ RB z4 Jm Rm X r ∧ RS1 t d s U X M ∧ WS X b (M ++ A) ∧ KM b W X ∧ KX t V U ∧ W 0 5 < X 0 5 ∧ (¬ sgnZ X = 42 ∧ ¬ sgnZ X = 47 ∧ ¬ sgnZ X = 37) ∧ GR t V U (14 - 2 * d)) ∨ BAD a U r
def opsL (O : List Int) : Prop := ∀ o ∈ O, 2 ≤ o ∧ o ≤ 6
def SUMS (d : Int) (sm : ((Nat → Nat → Int) → (Nat → Nat → Int) → (Nat → Nat → Nat) → Int × (Nat → Nat → Int) → Prop)) : Prop := ∀ (t : Nat) (s z4 b a : Int) (V W J Jm U : Nat → Nat → Int) (R Rm : Nat → Nat → Nat) (r : Int × (Nat → Nat → Int)), isTx t → R 72 1 = t → RS1 t d s V W [] → WS W b [] → bot W b → (0 ≤ z4 ∧ z4 ≤ b) → sm V J R (a, U) → RA z4 Jm Rm W r →
  (a = 1 ∧ ∃ (X : Nat → Nat → Int) (O : List Int), opsL O ∧ RB z4 Jm Rm X r ∧ RS1 t d s U X O ∧ WS X b O ∧ KM b W X ∧ KX t V U ∧ W 0 5 < X 0 5 ∧ (¬ sgnZ X = 42 ∧ ¬ sgnZ X = 47 ∧ ¬ sgnZ X = 37 ∧ ¬ sgnZ X = 43 ∧ ¬ sgnZ X = 45) ∧ GR t V U (15 - 2 * d)) ∨ BAD a U r
end
section
-- reading: sums, level by level (own work)
def BRS (d : Int) (brk : Int → ((Nat → Nat → Int) → (Nat → Nat → Int) → (Nat → Nat → Nat) → Int × (Nat → Nat → Int) → Prop)) : Prop := ∀ (t : Nat) (s z4 a : Int) (V W J Jm U : Nat → Nat → Int) (R Rm : Nat → Nat → Nat) (r : Int × (Nat → Nat → Int)), isTx t → R 72 1 = t → RS1 t d s V W [] → (0 ≤ z4 ∧ z4 ≤ W 0 11) → sgnZ W = 91 → brk 93 V J R (a, U) → RA z4 Jm Rm W r →
  (a = 1 ∧ ∃ X : Nat → Nat → Int, RB z4 Jm Rm X r ∧ RS1 t d s U X [] ∧ X 0 11 = W 0 11 ∧ KM (W 0 11) W X ∧ KX t V U ∧ W 0 5 < X 0 5 ∧ GR t V U (13 - 2 * d)) ∨ BAD a U r
theorem tx_ne {t : Nat} (h : isTx t) : (t ≠ 72 ∧ t + 1 ≠ 72) ∧ (t ≠ 58 ∧ t ≠ 59 ∧ t + 1 ≠ 58 ∧ t + 1 ≠ 59) := by rcases h with rfl | rfl | rfl | rfl | rfl | rfl <;> decide
/-- the first side passes a sign, so does the reference -/
theorem RS1.adv {t : Nat} {d s : Int} {V W V2 W2 : Nat → Nat → Int} {L : List Int} (h : RS1 t d s V W L) (ht : isTx t) (hlt : W 0 5 < W 0 6) (hV : V2 = up2 V 72 2 (W 0 5 + 1)) (h5 : W2 0 5 = W 0 5 + 1) (h6 : W2 0 6 = W 0 6) (h9 : W2 0 9 = W 0 9) (h10 : W2 0 10 = W 0 10) (h4 : W2 4 = W 4) (hc : W2 5 = W 5) : RS1 t d (s + 1) V2 W2 L := by
  have tn := tx_ne ht
  obtain ⟨hP, hC, hd, hd2, hs, hl⟩ := h
  subst hV
  have hp := hP.2.2.1
  refine ⟨hP.to (by rw [up2_s, h5]) (up2_n _ _ (Or.inr (by decide))) h6 (by omega) (up2_c _ _ (by decide)) (up2_c _ _ (by decide)) h4, hC.to (up2_n _ _ (Or.inl tn.1.1)) (up2_c _ _ tn.1.2) h10 hc, ?_, by omega, by omega, ?_⟩
  · rw [up2_n _ _ (Or.inr (by decide))]; exact hd
  · rw [up2_n _ _ (Or.inl tn.1.1)]; omega
theorem FACS.of {d : Int} {PB : (Nat → Nat → Nat) → Nat → Nat → Prop} {brk : Int → ((Nat → Nat → Int) → (Nat → Nat → Int) → (Nat → Nat → Nat) → Int × (Nat → Nat → Int) → Prop)} (hB : BRS d brk) (hd : 0 ≤ d ∧ d ≤ 6) : FACS d (factX PB brk) := by
  intro t s z4 a V W J Jm U R Rm r ht hR hS hz hx hm
  have tn := tx_ne ht
  have hS0 := hS
  obtain ⟨hP, hC, hd1, hd2, hs, hl⟩ := hS
  have hp := hP.2.2.1
  have hCl : V t 1 = W 0 10 := by have := hC.2.1; simpa using this
  have hC0 := hC.1
  unfold factX at hx
  obtain ⟨c, hc, hx⟩ := hx
  have hc := q_peek hP hc
  subst hc
  by_cases g91 : sgnZ W = 91
  · rw [if_neg (fun hh => hh g91)] at hx
    obtain ⟨z, Y, hY, -, -, hx⟩ := hx
    simp only [rtn, Prod.mk.injEq] at hx
    obtain ⟨rfl, rfl⟩ := hx
    exact hB t s z4 a V W J Jm U R Rm r ht hR hS0 hz g91 hY hm
  · rw [if_pos g91] at hx
    obtain ⟨dg, hdg, -, hx⟩ := hx
    have hdg := q_rDigit hdg
    rcases hm.one g91 ⟨hp.1, by omega⟩ with ⟨k1, c, X, hX, k2, k3⟩ | ⟨k1, k2⟩
    · -- a number
      have hlt := sgn_lt (W := W) (by omega)
      rw [if_neg (by unfold Sq at hdg; omega)] at hx
      obtain ⟨z, Y, hY, -, -, hx⟩ := hx
      simp only [rtn, Prod.mk.injEq] at hx
      obtain ⟨rfl, rfl⟩ := hx
      rcases q_number hP hR tn.1 (by omega) hY hX with ⟨n1, n2, w, p, V2, n3, n4, n5, n6, n7, n8, n9, n10, n11, n12, n13⟩ | ⟨n1, n2, n3⟩
      · refine Or.inl ⟨n1, _, k3 n2, ?_⟩
        rw [n10]
        have hp5 := n5 k1
        have x10 : X 0 10 = W 0 10 := n12 10 (by decide) (by decide)
        have x5 : X 5 = W 5 := n13 5 (by decide)
        have v2t : V2 t = V t := n9 t tn.1.1
        have v2s : V2 (t + 1) = V (t + 1) := n9 _ tn.1.2
        have e10 : nted X (1048576 * 0 + w) 0 10 = W 0 10 + 1 := by unfold nted; rw [up2_s, x10]
        have e5 : ∀ k : Nat, nted X (1048576 * 0 + w) 5 k = if k = (W 0 10).toNat then 1048576 * 0 + w else W 5 k := fun k => by
          unfold nted
          rw [up2_n _ _ (Or.inl (by decide)), x10]
          by_cases g : k = (W 0 10).toNat
          · subst g; rw [up2_s, if_pos rfl]
          · rw [up2_n _ _ (Or.inr g), if_neg g, x5]
        have e0 : ∀ k : Nat, k ≠ 10 → nted X (1048576 * 0 + w) 0 k = X 0 k := fun k hk => by
          unfold nted; rw [up2_n _ _ (Or.inr hk), up2_n _ _ (Or.inl (by decide))]
        have er : ∀ i : Nat, i ≠ 0 → i ≠ 5 → nted X (1048576 * 0 + w) i = W i := fun i i1 i2 => by
          unfold nted; rw [up2_c _ _ i1, up2_c _ _ i2]; exact n13 i i1
        refine ⟨⟨?_, ?_, ?_, ?_, hs, ?_⟩, ?_, ⟨fun j hj => ?_, fun i i1 i2 i3 => er i i1 i2, ?_, ?_, ?_⟩, ⟨fun i i1 i2 i3 => ?_, fun k hk => ?_, ?_⟩, ?_, ?_⟩
        · rw [n6]
          refine hP.to ?_ ?_ (by rw [e0 6 (by decide)]; exact n12 6 (by decide) (by decide)) (by rw [e0 5 (by decide), n11]; omega) ?_ ?_ (er 4 (by decide) (by decide))
          · rw [up2_n _ _ (Or.inl tn.1.1.symm), up2_n _ _ (Or.inl tn.1.2.symm), n7, e0 5 (by decide), n11]
          · rw [up2_n _ _ (Or.inl tn.1.1.symm), up2_n _ _ (Or.inl tn.1.2.symm), n8 3 (by decide)]
          · rw [up2_c _ _ tn.2.1.symm, up2_c _ _ tn.2.2.2.1.symm, n9 58 (by decide)]
          · rw [up2_c _ _ tn.2.2.1.symm, up2_c _ _ tn.2.2.2.2.symm, n9 59 (by decide)]
        · have hC2 : CA t V2 W [] := hC.to (by rw [v2t]) v2s rfl rfl
          have := hC2.both (x := 0 + 16 * w) (w := 1048576 * 0 + w) ⟨0, w, rfl, by decide, by decide, n3.1, by omega, Or.inl ⟨by decide, rfl⟩⟩ e10 e5
          rw [v2t] at this
          rw [n6]; exact this
        · rw [n6, up2_n _ _ (Or.inl tn.1.1.symm), up2_n _ _ (Or.inl tn.1.2.symm), n8 4 (by decide)]; exact hd1
        · rw [e0 9 (by decide), n12 9 (by decide) (by decide)]; exact hd2
        · rw [n6, up2_s, e0 5 (by decide), n11]; omega
        · rw [e0 11 (by decide), n12 11 (by decide) (by decide)]
        · rw [er 6 (by decide) (by decide)]
        · rw [e0 6 (by decide), n12 6 (by decide) (by decide)]
        · rw [e0 12 (by decide), n12 12 (by decide) (by decide)]
        · rw [e0 4 (by decide), n12 4 (by decide) (by decide)]
        · rw [n6, up2_c _ _ i2, up2_c _ _ i3]; exact n9 i i1
        · rw [n6, up2_n _ _ (Or.inr hk), up2_n _ _ (Or.inl (by omega)), v2t]
        · rw [n6, up2_n _ _ (Or.inl tn.1.1.symm), up2_n _ _ (Or.inl tn.1.2.symm), n8 3 (by decide)]
        · rw [e0 5 (by decide), n11]; exact hp5
        · refine GR.one (x := 0 + 16 * w) (by omega) (by omega) (by rw [n6, up2_s]) (fun j => ?_) (by omega)
          rw [n6, up2_n _ _ (Or.inl (by omega))]
          by_cases g : j = (V t 1).toNat
          · subst g; rw [up2_s, if_pos rfl]
          · rw [up2_n _ _ (Or.inr g), if_neg g, v2s]
      · exact Or.inr ⟨n1, X, k2 n2, n3⟩
    · rw [if_pos (by unfold Sq at hdg; omega)] at hx
      have sr := sgn_r W
      -- the first side's answer where it is no letter
      have bad : ∀ z Y, f_r_fail 1 V J R (z, Y) → a = z → U = Y → ∀ X : Nat → Nat → Int, r = (0, X) → X 0 7 = -1000 - W 0 5 → BAD a U r := fun z Y hY h1 h2 X h3 h4 => by
        obtain ⟨q1, q2⟩ := q_fail hY (by decide) (by have := hP.1; omega)
        refine ⟨by omega, X, h3, ?_⟩
        rw [h2, q2, up2_s, h4, hP.1]
        exact ⟨by omega, by omega⟩
      by_cases gneg : sgnZ W < 0
      · rw [if_pos gneg] at hx
        obtain ⟨z, Y, hY, -, -, hx⟩ := hx
        simp only [rtn, Prod.mk.injEq] at hx
        rcases k2 with ⟨l1, -⟩ | ⟨l1, X, l2, l3⟩
        · unfold isL at l1; omega
        · exact Or.inr (bad z Y hY hx.1 hx.2 X l2 l3)
      · rw [if_neg gneg, iC_c ⟨by omega, by omega⟩] at hx
        obtain ⟨q, eq, -, hx⟩ := rdb_g hx
        subst eq
        obtain ⟨i, hi, hx⟩ := hx
        have hlt := sgn_lt (W := W) (by omega)
        rcases q_letters ⟨by omega, by omega⟩ hi with ⟨i1, i2⟩ | ⟨i1, i2⟩
        · rcases k2 with ⟨l1, z, l2, l3⟩ | ⟨l1, -⟩
          · rw [if_pos i1] at hx
            obtain ⟨t2, et2, hx⟩ := rdb_g hx
            rw [hR] at et2
            subst et2
            obtain ⟨V11, h11, -, hx⟩ := hx
            obtain ⟨z12, e12, hx⟩ := rdb_g hx
            obtain ⟨z13, e13, hx⟩ := rdb_g hx
            obtain ⟨V14, e14, hx⟩ := rdb_g hx
            simp only [rtn, Prod.mk.injEq] at hx
            obtain ⟨f1, f2⟩ := ltr_fc l2
            have fb := fc_b z.toNat
            have p11 := q_put h11 (by decide) (by omega) (by omega)
            have v72 : V11 72 2 = W 0 5 := by rw [p11, up2_n _ _ (Or.inl tn.1.1.symm), up2_n _ _ (Or.inl tn.1.2.symm)]; exact hP.1
            rw [← e12, v72, wr_id ⟨by omega, by omega⟩] at e13
            rw [← e13] at e14
            have n10 : up2 (nted W (1048576 * 1 + z)) 0 5 (W 0 5 + 1) 0 10 = W 0 10 + 1 := by unfold nted; rw [up2_n _ _ (Or.inr (by decide)), up2_s]
            have n5 : ∀ k : Nat, up2 (nted W (1048576 * 1 + z)) 0 5 (W 0 5 + 1) 5 k = if k = (W 0 10).toNat then 1048576 * 1 + z else W 5 k := fun k => by
              unfold nted
              rw [up2_n _ _ (Or.inl (by decide)), up2_n _ _ (Or.inl (by decide))]
              by_cases g : k = (W 0 10).toNat
              · subst g; rw [up2_s, if_pos rfl]
              · rw [up2_n _ _ (Or.inr g), if_neg g]
            have n0 : ∀ k : Nat, k ≠ 5 → k ≠ 10 → up2 (nted W (1048576 * 1 + z)) 0 5 (W 0 5 + 1) 0 k = W 0 k := fun k k1 k2 => by
              unfold nted; rw [up2_n _ _ (Or.inr k1), up2_n _ _ (Or.inr k2), up2_n _ _ (Or.inl (by decide))]
            have nr : ∀ i : Nat, i ≠ 0 → i ≠ 5 → up2 (nted W (1048576 * 1 + z)) 0 5 (W 0 5 + 1) i = W i := fun i i1 i2 => by
              unfold nted; rw [up2_c _ _ i1, up2_c _ _ i1, up2_c _ _ i2]
            have hU : U = up2 (up2 (up2 V (t + 1) (V t 1).toNat (1 + 16 * (sgnZ W - 97))) t 1 (V t 1 + 1)) 72 2 (W 0 5 + 1) := by rw [hx.2, ← e14, p11]
            refine Or.inl ⟨hx.1, _, l3, ⟨?_, ?_, ?_, ?_, hs, ?_⟩, n0 11 (by decide) (by decide), ⟨fun j hj => by rw [nr 6 (by decide) (by decide)], fun i i1 i2 i3 => nr i i1 i2, n0 6 (by decide) (by decide), n0 12 (by decide) (by decide), n0 4 (by decide) (by decide)⟩, ⟨fun i i1 i2 i3 => ?_, fun k hk => ?_, ?_⟩, ?_, ?_⟩
            · rw [hU]
              refine hP.to (by rw [up2_s, up2_s]) ?_ (n0 6 (by decide) (by decide)) (by rw [up2_s]; omega) ?_ ?_ (nr 4 (by decide) (by decide))
              · rw [up2_n _ _ (Or.inr (by decide)), up2_n _ _ (Or.inl tn.1.1.symm), up2_n _ _ (Or.inl tn.1.2.symm)]
              · rw [up2_c _ _ (by decide), up2_c _ _ tn.2.1.symm, up2_c _ _ tn.2.2.2.1.symm]
              · rw [up2_c _ _ (by decide), up2_c _ _ tn.2.2.1.symm, up2_c _ _ tn.2.2.2.2.symm]
            · have := hC.both (x := 1 + 16 * (sgnZ W - 97)) (w := 1048576 * 1 + z) (W2 := up2 (nted W (1048576 * 1 + z)) 0 5 (W 0 5 + 1)) ⟨1, z, rfl, by decide, by decide, f1.1, by omega, Or.inr ⟨rfl, f1.2, by rw [f2]⟩⟩ n10 n5
              rw [hU]
              exact this.to (up2_n _ _ (Or.inl tn.1.1)) (up2_c _ _ tn.1.2) rfl rfl
            · rw [hU, up2_n _ _ (Or.inr (by decide)), up2_n _ _ (Or.inl tn.1.1.symm), up2_n _ _ (Or.inl tn.1.2.symm)]; exact hd1
            · rw [n0 9 (by decide) (by decide)]; exact hd2
            · rw [hU, up2_n _ _ (Or.inl tn.1.1), up2_s, up2_s]; omega
            · rw [hU, up2_c _ _ i1, up2_c _ _ i2, up2_c _ _ i3]
            · rw [hU, up2_n _ _ (Or.inl tn.1.1), up2_n _ _ (Or.inr hk), up2_n _ _ (Or.inl (by omega))]
            · rw [hU, up2_n _ _ (Or.inr (by decide)), up2_n _ _ (Or.inl tn.1.1.symm), up2_n _ _ (Or.inl tn.1.2.symm)]
            · rw [up2_s]; omega
            · refine GR.one (x := 1 + 16 * (sgnZ W - 97)) (by omega) (by omega) (by rw [hU, up2_n _ _ (Or.inl tn.1.1), up2_s]) (fun j => ?_) (by omega)
              rw [hU, up2_c _ _ tn.1.2, up2_n _ _ (Or.inl (by omega))]
              by_cases g : j = (V t 1).toNat
              · subst g; rw [up2_s, if_pos rfl]
              · rw [up2_n _ _ (Or.inr g), if_neg g]
          · exact absurd i2 l1
        · rcases k2 with ⟨l1, -⟩ | ⟨l1, X, l2, l3⟩
          · exact absurd l1 i2
          · rw [if_neg (by omega)] at hx
            obtain ⟨z, Y, hY, -, -, hx⟩ := hx
            simp only [rtn, Prod.mk.injEq] at hx
            exact Or.inr (bad z Y hY hx.1 hx.2 X l2 l3)
end
