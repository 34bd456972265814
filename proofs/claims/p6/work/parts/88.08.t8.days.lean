-- days that go by (own work)
theorem RLz.cg {b : Nat} {V V2 : Nat → Nat → Int} {N N2 : Nat → Int} (h : RLz b V N) (hV : ∀ i : Nat, b < i → i ≤ b + 18 → V2 i = V i) (hN : ∀ k : Nat, k < 79 → N2 k = N k) (h2 : V2 b 2 = V b 2) (h3 : V2 b 3 = N2 79) (h4 : V2 b 4 = N2 80) (h79 : 0 ≤ N2 79) (h80 : 0 ≤ N2 80 ∧ N2 80 ≤ 65535) : RLz b V2 N2 := by
  obtain ⟨a1, a2, a3, a4, a5, a6, a7, a8, a9, a10⟩ := h
  refine ⟨fun l hl => ?_, fun p hp => ?_, ?_, h3, h4, ?_, ?_, ?_, h79, h80⟩
  · exact (a1 l hl).cg (hV _ (by omega) (by omega)) (hV _ (by omega) (by omega)) (fun j hj => hN j (by omega)) (by rw [hN 76 (by decide)]) (by rw [hN 77 (by decide)])
  · exact (a2 p hp).cg (hV _ (by omega) (by omega)) (fun j hj => hN j (by omega)) (hN 78 (by decide))
  · rw [h2, hN 78 (by decide)]; exact a3
  · rw [hN 76 (by decide)]; exact a6
  · rw [hN 77 (by decide)]; exact a7
  · rw [hN 78 (by decide)]; exact a8
theorem d_draw {b : Nat} {a z : Int} {Vx Jx Vm Jm Ux Um : Nat → Nat → Int} {Rx Rm : Nat → Nat → Nat} (hb : isLa b) (hD : RD b Vx Vm) (hT : RTx Rx Vx Vm) (hx : f_s_draw b Vx Jx Rx (a, Ux)) (hm : f_m_draws Vm Jm Rm (z, Um)) :
    a = z ∧ RD b Ux Um ∧ RTx Rx Ux Um ∧ Um 1 78 = Vm 1 78 ∧ Um 1 79 = Vm 1 79 ∧ ∀ i : Nat, i ≠ b → Ux i = Vx i := by
  have bb := isLa_b hb
  obtain ⟨hR, d5, d6, d7⟩ := hD
  have hR0 := hR
  obtain ⟨hPl, hPe, hn, hd, hx4, hs76, hs77, hs78, h79, h80⟩ := hR
  obtain ⟨e1, e2⟩ := q_sDraw hx (by rw [hx4]; exact h80)
  obtain ⟨e3, e4⟩ := q_mDraw hm h80
  rw [hx4] at e1 e2
  subst e2 e4
  refine ⟨by rw [e1, e3], ⟨hR0.cg (fun i i1 i2 => up2_c _ _ (by omega)) (fun k hk => up2_n _ _ (Or.inr (by omega))) (up2_n _ _ (Or.inr (by decide))) ?_ ?_ ?_ ?_, ?_, ?_, ?_⟩, ?_, ?_, ?_, fun i hi => up2_c _ _ hi⟩
  · rw [up2_n _ _ (Or.inr (by decide)), up2_n _ _ (Or.inr (by decide))]; exact hd
  · rw [up2_s, up2_s]
  · rw [up2_n _ _ (Or.inr (by decide))]; exact h79
  · rw [up2_s]; exact drx_r _
  · rw [up2_n _ _ (Or.inr (by decide)), up2_n _ _ (Or.inl (by decide))]; exact d5
  · rw [up2_n _ _ (Or.inr (by decide)), up2_n _ _ (Or.inl (by decide))]; exact d6
  · rw [up2_n _ _ (Or.inr (by decide)), up2_n _ _ (Or.inl (by decide))]; exact d7
  · exact hT.cg (fun i i1 i2 i3 => up2_c _ _ (by omega)) (fun i i1 i2 => up2_c _ _ (by omega))
  · exact up2_n _ _ (Or.inr (by decide))
  · exact up2_n _ _ (Or.inr (by decide))
theorem d_lives {b l : Nat} {z y : Int} {Vx Jx Vm Jm : Nat → Nat → Int} {Rx Rm : Nat → Nat → Nat} (hl : l < 4) (hR : RLz b Vx (Vm 1)) (hx : f_s_isAlive b l Vx Jx Rx y) (hm : f_m_lives l Vm Jm Rm z) : y = z ∧ ((¬ z = 0) → bt (Vm 1 76) l = 1 ∧ ¬ bt (Vm 1 77) l = 1) := by
  have q1 := q_sAlive hx
  have q2 := q_mLives hm
  rw [Int.toNat_natCast] at q1
  obtain ⟨p0, p1, p2, p3, p4, p5, p6, p7, p8, -⟩ := hR.1 l hl
  have br := bt_r (Vm 1 76) l
  refine ⟨q1.eq q2 ⟨fun h => ⟨⟨h.1.1, h.1.2.1, by have := h.1.2.2; omega⟩, fun h2 => h.2 (p8.mp h2)⟩, fun h => ⟨⟨h.1.1, h.1.2.1, by have := h.1.2.2; omega⟩, fun h2 => h.2 (p8.mpr h2)⟩⟩, fun h => ?_⟩
  have := q2.on h
  exact ⟨this.1.2.2, this.2⟩
theorem d_gives {b p : Nat} {goal : Prop} {Jx Jm Ux Um : Nat → Nat → Int} {Rx Rm : Nat → Nat → Nat} {kX kM : (Nat → Nat → Int) → (Nat → Nat → Int) → Prop} {bX bM : (Int → (Nat → Nat → Int) → (Nat → Nat → Int) → Prop) → Int → (Nat → Nat → Int) → (Nat → Nat → Int) → Prop} (hb : isLa b) (hp : p < 8)
    (hbX : bX = fun rc (l : Int) (V : Nat → Nat → Int) => (if 4 ≤ l then kX V else calUX (fun i k : Nat => (69 ≤ i ∧ i ≤ 71) ∨ (b ≤ i ∧ i ≤ b + 18)) V (f_s_giveTo b p l V Jx Rx) fun V2 => rc (l + 1) V2))
    (hbM : bM = fun rc (l : Int) (V : Nat → Nat → Int) => (if 4 ≤ l then kM V else calR (f_m_lives l V Jm Rm) fun z4076 => fct (0 ≤ z4076 ∧ z4076 ≤ 1) <| jnk (fun (V4081 : Nat → Nat → Int) => rc (l + 1) V4081) fun jf4081 => (if z4076 = 0 then jf4081 V else rdb (V 1 ((l + 12).toNat)) fun z4084 => fct (0 ≤ z4084 ∧ z4084 ≤ 8) <| rdb (V 1 ((l + 16).toNat)) fun z4085 => fct (0 ≤ z4085 ∧ z4085 ≤ 8) <| calUM 16924998368092956267642880 V (f_m_waters p l V Jm Rm) fun V4086 => jf4081 V4086))) :
    ∀ (n m l : Nat) (Vx Vm : Nat → Nat → Int), RD b Vx Vm → RTx Rx Vx Vm → bt (Vm 1 78) p = 1 → lop2 n bX (l : Int) Vx Ux → lop2 m bM (l : Int) Vm Um →
      (∀ Vx2 Vm2 : Nat → Nat → Int, RD b Vx2 Vm2 → RTx Rx Vx2 Vm2 → Vm2 1 79 = Vm 1 79 → kX Vx2 Ux → kM Vm2 Um → goal) → goal := by
  intro n
  induction n with
  | zero => intro m l Vx Vm _ _ _ hx; exact False.elim hx
  | succ n ih =>
    intro m l Vx Vm hD hT h78 hx hm k
    cases m with
    | zero => exact False.elim hm
    | succ m =>
      rw [lop2_s hbX] at hx
      rw [lop2_s hbM] at hm
      by_cases hl : (4 : Int) ≤ l
      · rw [if_pos hl] at hx hm
        exact k Vx Vm hD hT rfl hx hm
      · rw [if_neg hl] at hx hm
        obtain ⟨V2, hg, -, hx⟩ := hx
        obtain ⟨z, hz, -, hm⟩ := hm
        have hz2 := q_mLives hz
        have hm := jnk_d hm
        by_cases g : z = 0
        · rw [if_pos g] at hm
          -- the first side gives nothing to one that is dead
          have hV : V2 = Vx := by
            unfold f_s_giveTo at hg
            obtain ⟨z1, -, -, hg⟩ := hg
            by_cases g1 : z1 = 0
            · rw [if_pos g1] at hg; exact hg
            · rw [if_neg g1] at hg
              obtain ⟨z4, h4, -, hg⟩ := hg
              have := (d_lives (by omega) hD.1 h4 hz).1
              rw [if_neg (fun hh => hh (by omega))] at hg
              exact hg
          subst hV
          refine ih m (l + 1) V2 Vm hD hT h78 ?_ ?_ k
          · rw [Int.natCast_add]; exact hx
          · rw [Int.natCast_add]; exact hm
        · rw [if_neg g] at hm
          obtain ⟨-, -, -, -, hm⟩ : ∃ (y1 : Int) (_ : True) (y2 : Int) (_ : True), calUM 16924998368092956267642880 Vm (f_m_waters p l Vm Jm Rm) (fun V4086 => lop2 m bM ((l : Int) + 1) V4086) Um := by
            obtain ⟨y1, -, -, hm⟩ := rdb_g hm
            obtain ⟨y2, -, -, hm⟩ := rdb_g hm
            exact ⟨y1, trivial, y2, trivial, hm⟩
          obtain ⟨W2, hw, -, hm⟩ := hm
          have hal := hz2.on g
          obtain ⟨r1, r2, r3, r4⟩ := d_give hb hp (by omega) hD hT h78 hal.1.2.2 hal.2 hg hw
          refine ih m (l + 1) V2 W2 r1 r2 (by rw [r3]; exact h78) ?_ ?_ (fun Vx2 Vm2 a1 a2 a3 a4 a5 => k Vx2 Vm2 a1 a2 (a3.trans r4) a4 a5)
          · rw [Int.natCast_add]; exact hx
          · rw [Int.natCast_add]; exact hm
theorem d_suns {b : Nat} {goal : Prop} {Jx Jm Ux Um : Nat → Nat → Int} {Rx Rm : Nat → Nat → Nat} {kX kM : (Nat → Nat → Int) → (Nat → Nat → Int) → Prop} {bX bM : (Int → (Nat → Nat → Int) → (Nat → Nat → Int) → Prop) → Int → (Nat → Nat → Int) → (Nat → Nat → Int) → Prop} (hb : isLa b)
    (hbX : bX = fun rc (l : Int) (V : Nat → Nat → Int) => (if 4 ≤ l then kX V else calR (f_s_isAlive b l V Jx Rx) fun z1898 => fct (0 ≤ z1898 ∧ z1898 ≤ 1) <| jnk (fun (V1911 : Nat → Nat → Int) => rc (l + 1) V1911) fun jf1911 => (if z1898 = 0 then jf1911 V else calVX (fun i k : Nat => (b ≤ i ∧ i ≤ b + 18)) V (f_s_draw b V Jx Rx) fun z1914 V1914 => jnk (fun (z1915 : Int) => rdb (V1914 b 7) fun z1917 => jnk (fun (z1918 : Int) => rdb (wr (z1917 + z1918)) fun z1920 => rdb (up2 V1914 b 7 z1920) fun V1921 => calUX (fun i k : Nat => (69 ≤ i ∧ i ≤ 71) ∨ (b ≤ i ∧ i ≤ b + 18)) V1921 (f_s_endDay b l z1915 V1921 Jx Rx) fun V1922 => jf1911 V1922) fun jf1919 => (if z1915 = 0 then jf1919 0 else jf1919 1)) fun jf1916 => (if 5 ≤ z1914 then jf1916 0 else jf1916 1))))
    (hbM : bM = fun rc (l : Int) (V : Nat → Nat → Int) => (if 4 ≤ l then kM V else calR (f_m_lives l V Jm Rm) fun z3847 => fct (0 ≤ z3847 ∧ z3847 ≤ 1) <| jnk (fun (V3862 : Nat → Nat → Int) => rc (l + 1) V3862) fun jf3862 => (if ¬ z3847 = 0 then rdb (V 1 ((l + 12).toNat)) fun z3865 => fct (0 ≤ z3865 ∧ z3865 ≤ 8) <| rdb (V 1 ((l + 16).toNat)) fun z3866 => fct (0 ≤ z3866 ∧ z3866 ≤ 8) <| calVM 36893488147419103232 V (f_m_draws V Jm Rm) fun z3867 V3867 => jnk (fun (z3868 : Int) => rdb (V3867 0 29) fun z3870 => jnk (fun (z3871 : Int) => rdb (wr (z3870 + z3871)) fun z3873 => rdb (up2 V3867 0 29 z3873) fun V3874 => calUM 7253591811175922467340288 V3874 (f_m_dries l z3868 V3874 Jm Rm) fun V3875 => jf3862 V3875) fun jf3872 => (if z3868 = 0 then jf3872 0 else jf3872 1)) fun jf3869 => (if 5 ≤ z3867 then jf3869 0 else jf3869 1) else jf3862 V))) :
    ∀ (n m l : Nat) (Vx Vm : Nat → Nat → Int), RD b Vx Vm → RTx Rx Vx Vm → lop2 n bX (l : Int) Vx Ux → lop2 m bM (l : Int) Vm Um →
      (∀ Vx2 Vm2 : Nat → Nat → Int, RD b Vx2 Vm2 → RTx Rx Vx2 Vm2 → Vm2 1 79 = Vm 1 79 → kX Vx2 Ux → kM Vm2 Um → goal) → goal := by
  have bb := isLa_b hb
  intro n
  induction n with
  | zero => intro m l Vx Vm _ _ hx; exact False.elim hx
  | succ n ih =>
    intro m l Vx Vm hD hT hx hm k
    cases m with
    | zero => exact False.elim hm
    | succ m =>
      rw [lop2_s hbX] at hx
      rw [lop2_s hbM] at hm
      by_cases hl : (4 : Int) ≤ l
      · rw [if_pos hl] at hx hm
        exact k Vx Vm hD hT rfl hx hm
      · rw [if_neg hl] at hx hm
        obtain ⟨y, hy, -, hx⟩ := hx
        obtain ⟨z, hz, -, hm⟩ := hm
        obtain ⟨eyz, hal⟩ := d_lives (by omega) hD.1 hy hz
        subst eyz
        have hx := jnk_d hx
        have hm := jnk_d hm
        by_cases g : y = 0
        · rw [if_pos g] at hx
          rw [if_neg (fun hh => hh g)] at hm
          refine ih m (l + 1) Vx Vm hD hT ?_ ?_ k
          · rw [Int.natCast_add]; exact hx
          · rw [Int.natCast_add]; exact hm
        · rw [if_neg g] at hx
          rw [if_pos g] at hm
          obtain ⟨a, V2, ha, -, hx⟩ := hx
          obtain ⟨z2, W2, hz2, hm⟩ : ∃ (z2 : Int) (W2 : Nat → Nat → Int), f_m_draws Vm Jm Rm (z2, W2) ∧ _ := by
            obtain ⟨y1, -, -, hm⟩ := rdb_g hm
            obtain ⟨y2, -, -, hm⟩ := rdb_g hm
            obtain ⟨z2, W2, hz2, -, hm⟩ := hm
            exact ⟨z2, W2, hz2, hm⟩
          obtain ⟨e1, r1, r2, r3, r4, r5⟩ := d_draw hb hD hT ha hz2
          subst e1
          have hx := jnk_if (K := _) hx
          have hm := jnk_if (K := _) hm
          generalize hs : (if 5 ≤ a then (0 : Int) else 1) = s at hx hm
          obtain ⟨z17, e17, hx⟩ := rdb_g hx
          obtain ⟨z70, e70, hm⟩ := rdb_g hm
          have hx := jnk_if hx
          have hm := jnk_if hm
          obtain ⟨z20, e20, hx⟩ := rdb_g hx
          obtain ⟨V21, e21, hx⟩ := rdb_g hx
          obtain ⟨z73, e73, hm⟩ := rdb_g hm
          obtain ⟨W74, e74, hm⟩ := rdb_g hm
          obtain ⟨V22, hV, -, hx⟩ := hx
          obtain ⟨W75, hW, -, hm⟩ := hm
          obtain ⟨hR, d5, d6, d7⟩ := r1
          have ez : z20 = z73 := by rw [← e20, ← e73, ← e17, ← e70, d7]
          have D2 : RD b V21 W74 := by
            subst e21 e74
            obtain ⟨hPl, hPe, hn, hd, hx4, hs76, hs77, hs78, h79, h80⟩ := hR
            refine ⟨RLz.cg ⟨hPl, hPe, hn, hd, hx4, hs76, hs77, hs78, h79, h80⟩ (fun i i1 i2 => up2_c _ _ (by omega)) (fun k hk => up2_n _ _ (Or.inl (by decide))) (up2_n _ _ (Or.inr (by decide))) ?_ ?_ ?_ ?_, ?_, ?_, ?_⟩
            · rw [up2_n _ _ (Or.inr (by decide)), up2_n _ _ (Or.inl (by decide))]; exact hd
            · rw [up2_n _ _ (Or.inr (by decide)), up2_n _ _ (Or.inl (by decide))]; exact hx4
            · rw [up2_n _ _ (Or.inl (by decide))]; exact h79
            · rw [up2_n _ _ (Or.inl (by decide))]; exact h80
            · rw [up2_n _ _ (Or.inr (by decide)), up2_n _ _ (Or.inr (by decide))]; exact d5
            · rw [up2_n _ _ (Or.inr (by decide)), up2_n _ _ (Or.inr (by decide))]; exact d6
            · rw [up2_s, up2_s]; exact ez
          have T2 : RTx Rx V21 W74 := by
            subst e21 e74
            exact r2.cg (fun i i1 i2 i3 => up2_c _ _ (by omega)) (fun i i1 i2 => up2_c _ _ (by omega))
          have w1 : W74 1 = W2 1 := by rw [← e74, up2_c _ _ (by decide)]
          have hal2 := hal g
          -- told and dead are as they were ahead of the draw
          obtain ⟨q1, q2⟩ := q_mDraw hz2 hD.1.2.2.2.2.2.2.2.2.2
          have k76 : W2 1 76 = Vm 1 76 := by rw [q2, up2_n _ _ (Or.inr (by decide))]
          have k77 : W2 1 77 = Vm 1 77 := by rw [q2, up2_n _ _ (Or.inr (by decide))]
          obtain ⟨t1, t2, t3, t4⟩ := d_end hb (by omega) D2 T2 (by rw [w1, k76]; exact hal2.1) (by rw [w1, k77]; exact hal2.2) hV hW
          refine ih m (l + 1) V22 W75 t1 t2 ?_ ?_ (fun Vx2 Vm2 a1 a2 a3 a4 a5 => k Vx2 Vm2 a1 a2 (by rw [a3, t4, w1]; exact r4) a4 a5)
          · rw [Int.natCast_add]; exact hx
          · rw [Int.natCast_add]; exact hm
theorem d_day {b : Nat} {Vx Jx Vm Jm Ux Um : Nat → Nat → Int} {Rx Rm : Nat → Nat → Nat} (hb : isLa b) (hD : RD b Vx Vm) (hT : RTx Rx Vx Vm) (h79 : Vm 1 79 ≤ 20000) (hx : f_s_oneDay b Vx Jx Rx Ux) (hm : f_m_dayGoes Vm Jm Rm Um) : RD b Ux Um ∧ RTx Rx Ux Um ∧ Um 1 79 = Vm 1 79 + 1 := by
  have bb := isLa_b hb
  unfold f_s_oneDay at hx
  unfold f_m_dayGoes at hm
  obtain ⟨bX, hbX, hx⟩ := lop2_g hx
  obtain ⟨bM, hbM, hm⟩ := lop2_g hm
  have key : ∀ (n m p : Nat) (V W : Nat → Nat → Int), RD b V W → RTx Rx V W → W 1 79 = Vm 1 79 → lop2 n bX (p : Int) V Ux → lop2 m bM (p : Int) W Um → RD b Ux Um ∧ RTx Rx Ux Um ∧ Um 1 79 = Vm 1 79 + 1 := by
    intro n
    induction n with
    | zero => intro m p V W _ _ _ hx; exact False.elim hx
    | succ n ih =>
      intro m p V W hD hT hd hx hm
      cases m with
      | zero => exact False.elim hm
      | succ m =>
        rw [lop2_s hbX] at hx
        rw [lop2_s hbM] at hm
        by_cases hp : (8 : Int) ≤ p
        · rw [if_pos hp] at hx hm
          refine d_suns (kX := fun V1808 => rdb (V1808 b 3) fun z1895 => rdb (wr (z1895 + 1)) fun z1896 => rdb (up2 V1808 b 3 z1896) fun V1897 => rtn V1897) (kM := fun V3745 => rdb (V3745 1 79) fun z3844 => rdb (wr (z3844 + 1)) fun z3845 => rdb (up2 V3745 1 79 z3845) fun V3846 => rtn V3846) hb rfl rfl 6 6 0 V W hD hT hx hm (fun Vx2 Vm2 a1 a2 a3 a4 a5 => ?_)
          simp only [rdb, rtn] at a4 a5
          obtain ⟨hR, d5, d6, d7⟩ := a1
          have hR0 := hR
          obtain ⟨hPl, hPe, hn, hdd, hx4, hs76, hs77, hs78, h79b, h80⟩ := hR
          rw [hdd] at a4
          have e79 : wr (Vm2 1 79 + 1) = Vm 1 79 + 1 := by rw [wr_id ⟨by omega, by omega⟩]; omega
          rw [e79] at a4 a5
          subst a4 a5
          refine ⟨⟨hR0.cg (fun i i1 i2 => up2_c _ _ (by omega)) (fun k hk => up2_n _ _ (Or.inr (by omega))) (up2_n _ _ (Or.inr (by decide))) ?_ ?_ ?_ ?_, ?_, ?_, ?_⟩, ?_, up2_s _ _ _ _⟩
          · rw [up2_s, up2_s]
          · rw [up2_n _ _ (Or.inr (by decide)), up2_n _ _ (Or.inr (by decide))]; exact hx4
          · rw [up2_s]; omega
          · rw [up2_n _ _ (Or.inr (by decide))]; exact h80
          · rw [up2_n _ _ (Or.inr (by decide)), up2_n _ _ (Or.inl (by decide))]; exact d5
          · rw [up2_n _ _ (Or.inr (by decide)), up2_n _ _ (Or.inl (by decide))]; exact d6
          · rw [up2_n _ _ (Or.inr (by decide)), up2_n _ _ (Or.inl (by decide))]; exact d7
          · exact a2.cg (fun i i1 i2 i3 => up2_c _ _ (by omega)) (fun i i1 i2 => up2_c _ _ (by omega))
        · rw [if_neg hp] at hx hm
          rw [Nat.one_mul, Int.toNat_natCast] at hx
          obtain ⟨c, ec, hx⟩ := rdb_g hx
          subst ec
          obtain ⟨t, et, -, hx⟩ := rdb_g hx
          obtain ⟨z, hz, -, hm⟩ := hm
          have hz := q_mPerson hz
          obtain ⟨p0, p1, p2, p3⟩ := hD.1.2.1 p (by omega)
          have br := bt_r (W 1 78) p
          have etz : t = z := by
            unfold Sq at hz
            omega
          subst etz
          have hx := jnk_d hx
          have hm := jnk_d hm
          by_cases g : t = 0
          · rw [if_pos g] at hx hm
            refine ih m (p + 1) V W hD hT hd ?_ ?_
            · rw [Int.natCast_add]; exact hx
            · rw [Int.natCast_add]; exact hm
          · rw [if_neg g] at hx hm
            obtain ⟨a, V2, ha, -, hx⟩ := hx
            obtain ⟨z2, W2, hz2, -, hm⟩ := hm
            obtain ⟨e1, r1, r2, r3, r4, r5⟩ := d_draw hb hD hT ha hz2
            subst e1
            obtain ⟨y52, e52, hx⟩ := rdb_g hx
            obtain ⟨z86, e86, hm⟩ := rdb_g hm
            rw [show ((p : Int) + 52).toNat = 52 + p by omega] at e86
            have ee : y52 = z86 := by rw [← e52, ← e86]; exact (r1.1.2.1 p (by omega)).2.1
            subst ee
            by_cases g2 : y52 ≤ a
            · rw [if_pos g2] at hx
              rw [if_neg (by omega)] at hm
              refine ih m (p + 1) V2 W2 r1 r2 (by rw [r4]; exact hd) ?_ ?_
              · rw [Int.natCast_add]; exact hx
              · rw [Int.natCast_add]; exact hm
            · rw [if_neg g2] at hx
              rw [if_pos (by omega)] at hm
              have h78 : bt (W2 1 78) p = 1 := by rw [r3]; omega
              refine d_gives (kX := fun V1968 => lop2 n bX ((p : Int) + 1) V1968) (kM := fun V4062 => lop2 m bM ((p : Int) + 1) V4062) hb (by omega) rfl rfl 6 6 0 V2 W2 r1 r2 h78 hx hm (fun Vx2 Vm2 a1 a2 a3 a4 a5 => ih m (p + 1) Vx2 Vm2 a1 a2 (by rw [a3, r4]; exact hd) ?_ ?_)
              · rw [Int.natCast_add]; exact a4
              · rw [Int.natCast_add]; exact a5
  exact key 10 10 0 Vx Vm hD hT rfl hx hm
theorem d_days {b : Nat} {x : Int} {Vx Jx Vm Jm Ux Um : Nat → Nat → Int} {Rx Rm : Nat → Nat → Nat} (hb : isLa b) (hR : RLz b Vx (Vm 1)) (hT : RTx Rx Vx Vm) (h79 : Vm 1 79 ≤ 9999) (hx : f_s_goBy b x Vx Jx Rx Ux) (hm : f_m_daysGo x Vm Jm Rm Um) : RD b Ux Um ∧ RTx Rx Ux Um ∧ Um 1 79 ≤ 9999 := by
  have bb := isLa_b hb
  unfold f_s_goBy at hx
  unfold f_m_daysGo at hm
  obtain ⟨V1, e1, hx⟩ := rdb_g hx
  obtain ⟨V2, e2, hx⟩ := rdb_g hx
  obtain ⟨V3, e3, hx⟩ := rdb_g hx
  obtain ⟨W1, f1, hm⟩ := rdb_g hm
  obtain ⟨W2, f2, hm⟩ := rdb_g hm
  obtain ⟨W3, f3, hm⟩ := rdb_g hm
  -- nobody has given yet
  obtain ⟨bZ, hbZ, hm⟩ := lop2_g hm
  have zero : ∀ (n p : Nat) (W : Nat → Nat → Int), (∀ i : Nat, i ≠ 19 → W i = W3 i) → lop2 n bZ (p : Int) W Um → ∃ W4 : Nat → Nat → Int, (∀ i : Nat, i ≠ 19 → W4 i = W3 i) ∧ lop2 (2147483649) (fun rc153 (z152 : Int) (V153 : Nat → Nat → Int) => (if x ≤ z152 then rtn V153 else rdb (V153 1 79) fun z159 => (if 9999 ≤ z159 then rtn V153 else calUM 16924998368092956804513792 V153 (f_m_dayGoes V153 Jm Rm) fun V161 => rc153 (z152 + 1) V161))) 0 W4 Um := by
    intro n
    induction n with
    | zero => intro p W _ h; exact False.elim h
    | succ n ih =>
      intro p W hW h
      rw [lop2_s hbZ] at h
      by_cases hp : (8 : Int) ≤ p
      · rw [if_pos hp] at h
        exact ⟨W, hW, h⟩
      · rw [if_neg hp] at h
        refine ih (p + 1) _ (fun i hi => ?_) (by rw [Int.natCast_add]; exact h)
        rw [up2_c _ _ hi]; exact hW i hi
  obtain ⟨W4, hW4, hm⟩ := zero 10 0 W3 (fun _ _ => rfl) hm
  obtain ⟨bX, hbX, hx⟩ := lop2_g hx
  obtain ⟨bM, hbM, hm⟩ := lop2_g hm
  have hV3 : ∀ i : Nat, i ≠ b → V3 i = Vx i := fun i hi => by rw [← e3, up2_c _ _ hi, ← e2, up2_c _ _ hi, ← e1, up2_c _ _ hi]
  have hV3b : V3 b = up1 (up1 (up1 (Vx b) 5 0) 6 0) 7 0 := by rw [← e3, up2_row, ← e2, up2_row, ← e1, up2_row]
  have hW3 : ∀ i : Nat, i ≠ 0 → W3 i = Vm i := fun i hi => by rw [← f3, up2_c _ _ hi, ← f2, up2_c _ _ hi, ← f1, up2_c _ _ hi]
  have hW30 : W3 0 = up1 (up1 (up1 (Vm 0) 27 0) 28 0) 29 0 := by rw [← f3, up2_row, ← f2, up2_row, ← f1, up2_row]
  have k1 : W4 1 = Vm 1 := by rw [hW4 1 (by decide), hW3 1 (by decide)]
  have D0 : RD b V3 W4 := by
    refine ⟨hR.cg (fun i i1 i2 => hV3 i (by omega)) (fun k hk => by rw [k1]) (by rw [hV3b]; rfl) ?_ ?_ ?_ ?_, ?_, ?_, ?_⟩
    · rw [hV3b, k1]; exact hR.2.2.2.1
    · rw [hV3b, k1]; exact hR.2.2.2.2.1
    · rw [k1]; exact hR.2.2.2.2.2.2.2.2.1
    · rw [k1]; exact hR.2.2.2.2.2.2.2.2.2
    · rw [hV3b, hW4 0 (by decide), hW30]; rfl
    · rw [hV3b, hW4 0 (by decide), hW30]; rfl
    · rw [hV3b, hW4 0 (by decide), hW30]; rfl
  have T0 : RTx Rx V3 W4 := hT.cg (fun i i1 i2 i3 => hV3 i (by omega)) (fun i i1 i2 => by rw [hW4 i (by omega), hW3 i (by omega)])
  have key : ∀ (n m : Nat) (z : Int) (V W : Nat → Nat → Int), RD b V W → RTx Rx V W → W 1 79 ≤ 9999 → lop2 n bX z V Ux → lop2 m bM z W Um → RD b Ux Um ∧ RTx Rx Ux Um ∧ Um 1 79 ≤ 9999 := by
    intro n
    induction n with
    | zero => intro m z V W _ _ _ hx; exact False.elim hx
    | succ n ih =>
      intro m z V W hD hT hd hx hm
      cases m with
      | zero => exact False.elim hm
      | succ m =>
        rw [lop2_s hbX] at hx
        rw [lop2_s hbM] at hm
        by_cases g : x ≤ z
        · rw [if_pos g] at hx hm
          have hx : Ux = V := hx
          have hm : Um = W := hm
          subst hx hm
          exact ⟨hD, hT, hd⟩
        · rw [if_neg g] at hx hm
          obtain ⟨y, ey, hx⟩ := rdb_g hx
          obtain ⟨w, ew, hm⟩ := rdb_g hm
          have eyw : y = w := by rw [← ey, ← ew]; exact hD.1.2.2.2.1
          subst eyw
          by_cases g2 : 9999 ≤ y
          · rw [if_pos g2] at hx hm
            have hx : Ux = V := hx
            have hm : Um = W := hm
            subst hx hm
            exact ⟨hD, hT, hd⟩
          · rw [if_neg g2] at hx hm
            obtain ⟨V5, hV5, -, hx⟩ := hx
            obtain ⟨W5, hW5, -, hm⟩ := hm
            obtain ⟨r1, r2, r3⟩ := d_day hb hD hT (by omega) hV5 hW5
            exact ih m (z + 1) V5 W5 r1 r2 (by omega) hx hm
  exact key _ _ 0 V3 W4 D0 T0 (by rw [k1]; exact h79) hx hm
