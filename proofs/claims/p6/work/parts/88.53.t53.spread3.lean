-- answers: spread, all together (own work)
theorem lbx_cg {N T S : Nat → Int} : ∀ l : Nat, (∀ q : Nat, q < l → av N q = 1 → T q = S q) → lbx N T l = lbx N S l := by
  intro l
  induction l with
  | zero => intro _; rfl
  | succ l ih =>
    intro h
    have e1 : lbx N T (l + 1) = if av N l = 1 then min (lbx N T l) (T l) else lbx N T l := rfl
    have e2 : lbx N S (l + 1) = if av N l = 1 then min (lbx N S l) (S l) else lbx N S l := rfl
    rw [e1, e2, ih (fun q hq => h q (by omega))]
    rcases av_r N l with g | g
    · rw [if_pos g, if_pos g, h l (by omega) g]
    · rw [if_neg (show ¬ av N l = 1 by omega), if_neg (show ¬ av N l = 1 by omega)]
theorem lbx_av {N M T : Nat → Int} (h : ∀ l : Nat, av M l = av N l) : ∀ l : Nat, lbx M T l = lbx N T l := by
  intro l
  induction l with
  | zero => rfl
  | succ l ih =>
    have e1 : lbx M T (l + 1) = if av M l = 1 then min (lbx M T l) (T l) else lbx M T l := rfl
    have e2 : lbx N T (l + 1) = if av N l = 1 then min (lbx N T l) (T l) else lbx N T l := rfl
    rw [e1, e2, ih, h l]
def cc4 (a b c d : Int) (l : Nat) : Int := if l = 0 then a else if l = 1 then b else if l = 2 then c else d
theorem sp_copy {ρ : Type} {G : (Nat → Nat → Int) → ρ → Prop} {r : ρ} {b : (Int → (Nat → Nat → Int) → ρ → Prop) → Int → (Nat → Nat → Int) → ρ → Prop} {W : Nat → Nat → Int}
    (hb : b = (fun rc214342 (z214341 : Int) (V214342 : Nat → Nat → Int) => (if 4 ≤ z214341 then G V214342 else rdb (V214342 27 z214341.toNat) fun z214347 => fct (0 ≤ z214347 ∧ z214347 ≤ 24) <| rdb (up2 V214342 28 z214341.toNat z214347) fun V214348 => rc214342 (z214341 + 1) V214348))) (h : lop2 6 b 0 W r) : ∃ W2 : Nat → Nat → Int, (∀ i : Nat, i ≠ 28 → W2 i = W i) ∧ (∀ j : Nat, j < 4 → W2 28 j = W 27 j) ∧ G W2 r := by
  have key : ∀ (n j : Nat) (W3 : Nat → Nat → Int), (∀ i : Nat, i ≠ 28 → W3 i = W i) → (∀ q : Nat, q < j → W3 28 q = W 27 q) → lop2 n b (j : Int) W3 r → ∃ W2 : Nat → Nat → Int, (∀ i : Nat, i ≠ 28 → W2 i = W i) ∧ (∀ j : Nat, j < 4 → W2 28 j = W 27 j) ∧ G W2 r := by
    intro n
    induction n with
    | zero => intro j W3 _ _ h; exact False.elim h
    | succ n ih =>
      intro j W3 h1 h2 h
      rw [lop2_s hb] at h
      by_cases g : (4 : Int) ≤ j
      · rw [if_pos g] at h
        exact ⟨W3, h1, fun q hq => h2 q (by omega), h⟩
      · rw [if_neg g] at h
        obtain ⟨t, et, -, h⟩ := rdb_g h
        obtain ⟨W4, e4, h⟩ := rdb_g h
        rw [Int.toNat_natCast] at et e4
        refine ih (j + 1) W4 (fun i hi => by rw [← e4, up2_c _ _ hi]; exact h1 i hi) (fun q hq => ?_) (by rw [Int.natCast_add]; exact h)
        rw [← e4]
        by_cases e : q = j
        · rw [e, up2_s, ← et, h1 27 (by decide)]
        · rw [up2_n _ _ (Or.inr e)]; exact h2 q (by omega)
  exact key _ 0 W (fun _ _ => rfl) (fun q hq => absurd hq (by omega)) h
theorem sp_best {n : Nat} {z b : Int} {N : Nat → Int} {U V2 W1 X J Jm : Nat → Nat → Int} {R Rm : Nat → Nat → Nat} {bM : (Int → Int → (Nat → Nat → Int) → Int × (Nat → Nat → Int) → Prop) → Int → Int → (Nat → Nat → Int) → Int × (Nat → Nat → Int) → Prop} (hn : n ≤ 24) (hI : SPI R N U W1) (hT : ∀ l i : Nat, l < 4 → i ≤ n → SPT N U W1 l i)
    (hbM : bM = (fun rc200882 (z200880 : Int) (z200881 : Int) (V200882 : Nat → Nat → Int) => (if (n : Int) < z200880 then rtn (z200881, V200882) else lop3 (27) (fun rc211658 (z211656 : Int) (z211657 : Int) (V211658 : Nat → Nat → Int) => (if (n : Int) < z200880 + z211656 then rc200882 (z200880 + 1) z211657 V211658 else lop3 (27) (fun rc214082 (z214080 : Int) (z214081 : Int) (V214082 : Nat → Nat → Int) => (if (n : Int) < z200880 + z211656 + z214080 then rc211658 (z211656 + 1) z214081 V214082 else rdb (up2 V214082 27 0 z200880) fun V214283 => rdb (up2 V214283 27 1 z211656) fun V214284 => rdb (up2 V214284 27 2 z214080) fun V214285 => rdb (up2 V214285 27 3 ((n : Int) - z200880 - z211656 - z214080)) fun V214286 => calR (f_m_mayBe (n : Int) V214286 Jm Rm) fun z214287 => fct (0 ≤ z214287 ∧ z214287 ≤ 1) <| jnk (fun (z214317 : Int) (V214318 : Nat → Nat → Int) => rc214082 (z214080 + 1) z214317 V214318) fun jf214318 => (if z214287 = 0 then jf214318 z214081 V214286 else calR (f_m_leastBy V214286 Jm Rm) fun z214320 => (if z214081 < z214320 then calR (f_m_leastBy V214286 Jm Rm) fun z214322 => lop2 (6) (fun rc214342 (z214341 : Int) (V214342 : Nat → Nat → Int) => (if 4 ≤ z214341 then jf214318 z214322 V214342 else rdb (V214342 27 z214341.toNat) fun z214347 => fct (0 ≤ z214347 ∧ z214347 ≤ 24) <| rdb (up2 V214342 28 z214341.toNat z214347) fun V214348 => rc214342 (z214341 + 1) V214348)) 0 V214286 else jf214318 z214081 V214286)))) 0 z211657 V211658)) 0 z200881 V200882)))
    (hx : f_s_spreadBest (n : Int) U J R (z, V2)) (hm : lop3 27 bM 0 (-1) W1 (b, X)) : z = b ∧ ∀ j : Nat, j < 4 → V2 127 j = X 28 j := by
  obtain ⟨s1, s2, s3, s4, s5⟩ := hI
  unfold f_s_spreadBest at hx
  obtain ⟨bX, hbX, hx9⟩ := lop3_g hx
  have key : ∀ (f g : Nat) (a best : Int) (V W : Nat → Nat → Int), 0 ≤ a → -1 ≤ best → (∀ i : Nat, i ≠ 127 → V i = U i) → (∀ i : Nat, i ≠ 27 → i ≠ 28 → W i = W1 i) → (∀ j : Nat, j < 4 → V 127 j = W 28 j) → lop3 f bX a best V (z, V2) → lop3 g bM a best W (b, X) → z = b ∧ ∀ j : Nat, j < 4 → V2 127 j = X 28 j := by
    intro f
    induction f with
    | zero => intro g a best V W _ _ _ _ _ hx; exact False.elim hx
    | succ f ih =>
      intro g a best V W ha hbest hV hW hE hx hm
      cases g with
      | zero => exact False.elim hm
      | succ g =>
        rw [lop3_s hbX] at hx
        rw [lop3_s hbM] at hm
        by_cases ga : (n : Int) < a
        · rw [if_pos ga] at hx hm
          simp only [rtn, Prod.mk.injEq] at hx hm
          rw [hx.1, hm.1, hx.2, hm.2]
          exact ⟨rfl, hE⟩
        · rw [if_neg ga] at hx hm
          obtain ⟨cX, hcX, hxA⟩ := lop3_g hx
          obtain ⟨cM, hcM, hmA⟩ := lop3_g hm
          have mid : ∀ (f2 g2 : Nat) (c1 best : Int) (V W : Nat → Nat → Int), 0 ≤ c1 → -1 ≤ best → (∀ i : Nat, i ≠ 127 → V i = U i) → (∀ i : Nat, i ≠ 27 → i ≠ 28 → W i = W1 i) → (∀ j : Nat, j < 4 → V 127 j = W 28 j) → lop3 f2 cX c1 best V (z, V2) → lop3 g2 cM c1 best W (b, X) → z = b ∧ ∀ j : Nat, j < 4 → V2 127 j = X 28 j := by
            intro f2
            induction f2 with
            | zero => intro g2 c1 best V W _ _ _ _ _ hx; exact False.elim hx
            | succ f2 ih2 =>
              intro g2 c1 best V W hc1 hbest hV hW hE hx hm
              cases g2 with
              | zero => exact False.elim hm
              | succ g2 =>
                rw [lop3_s hcX] at hx
                rw [lop3_s hcM] at hm
                by_cases gb : (n : Int) < a + c1
                · rw [if_pos (by omega)] at hx
                  rw [if_pos gb] at hm
                  exact ih g (a + 1) best V W (by omega) hbest hV hW hE hx hm
                · rw [if_neg (by omega)] at hx
                  rw [if_neg gb] at hm
                  obtain ⟨dX, hdX, hxB⟩ := lop3_g hx
                  obtain ⟨dM, hdM, hmB⟩ := lop3_g hm
                  have inn : ∀ (f3 g3 : Nat) (c2 best : Int) (V W : Nat → Nat → Int), 0 ≤ c2 → -1 ≤ best → (∀ i : Nat, i ≠ 127 → V i = U i) → (∀ i : Nat, i ≠ 27 → i ≠ 28 → W i = W1 i) → (∀ j : Nat, j < 4 → V 127 j = W 28 j) → lop3 f3 dX c2 best V (z, V2) → lop3 g3 dM c2 best W (b, X) → z = b ∧ ∀ j : Nat, j < 4 → V2 127 j = X 28 j := by
                    intro f3
                    induction f3 with
                    | zero => intro g3 c2 best V W _ _ _ _ _ hx; exact False.elim hx
                    | succ f3 ih3 =>
                      intro g3 c2 best V W hc2 hbest hV hW hE hx hm
                      cases g3 with
                      | zero => exact False.elim hm
                      | succ g3 =>
                        rw [lop3_s hdX] at hx
                        rw [lop3_s hdM] at hm
                        by_cases gc : (n : Int) < a + c1 + c2
                        · rw [if_pos (by omega)] at hx
                          rw [if_pos gc] at hm
                          exact ih2 g2 (c1 + 1) best V W (by omega) hbest hV hW hE hx hm
                        · rw [if_neg (by omega)] at hx
                          rw [if_neg gc] at hm
                          obtain ⟨r0, k0, hx⟩ := hx
                          obtain ⟨r1, k1, hx⟩ := hx
                          obtain ⟨r2, k2, hx⟩ := hx
                          obtain ⟨r3, k3, hx⟩ := hx
                          have hx := jnk_d hx
                          obtain ⟨Wa, ea, hm⟩ := rdb_g hm
                          obtain ⟨Wb, eb, hm⟩ := rdb_g hm
                          obtain ⟨Wc, ec, hm⟩ := rdb_g hm
                          obtain ⟨Wd, ed, hm⟩ := rdb_g hm
                          obtain ⟨y, hy, -, hm⟩ := hm
                          have hm := jnk_d hm
                          have wd : ∀ i : Nat, i ≠ 27 → Wd i = W i := fun i hi => by rw [← ed, up2_c _ _ hi, ← ec, up2_c _ _ hi, ← eb, up2_c _ _ hi, ← ea, up2_c _ _ hi]
                          have wd27 : Wd 27 = up1 (up1 (up1 (up1 (W 27) 0 a) 1 c1) 2 c2) 3 ((n : Int) - a - c1 - c2) := by rw [← ed, up2_row, ← ec, up2_row, ← eb, up2_row, ← ea, up2_row]
                          have q27 : ∀ l : Nat, l < 4 → Wd 27 l = cc4 a c1 c2 ((n : Int) - a - c1 - c2) l := fun l hl => by
                            rw [wd27]
                            rcases (show l = 0 ∨ l = 1 ∨ l = 2 ∨ l = 3 by omega) with rfl | rfl | rfl | rfl <;> rfl
                          have rc4 : ∀ l : Nat, l < 4 → 0 ≤ cc4 a c1 c2 ((n : Int) - a - c1 - c2) l ∧ cc4 a c1 c2 ((n : Int) - a - c1 - c2) l ≤ n := fun l hl => by
                            rcases (show l = 0 ∨ l = 1 ∨ l = 2 ∨ l = 3 by omega) with rfl | rfl | rfl | rfl
                            · show 0 ≤ a ∧ a ≤ n; omega
                            · show 0 ≤ c1 ∧ c1 ≤ n; omega
                            · show 0 ≤ c2 ∧ c2 ≤ n; omega
                            · show 0 ≤ (n : Int) - a - c1 - c2 ∧ (n : Int) - a - c1 - c2 ≤ n; omega
                          generalize hcc : cc4 a c1 c2 ((n : Int) - a - c1 - c2) = c at q27 rc4
                          have cv : c 0 = a ∧ c 1 = c1 ∧ c 2 = c2 ∧ c 3 = (n : Int) - a - c1 - c2 := by rw [← hcc]; exact ⟨rfl, rfl, rfl, rfl⟩
                          have hRV : RLz 1 V N := s1.cg2 (fun i i1 i2 => hV i (by omega)) (fun _ _ => rfl)
                          have e0 := q_least1 (l := 0) (c := c) (T := fun l => V 126 (25 * l + (c l).toNat)) hRV (by decide) (m := 60) rfl ⟨cv.1.symm, ha⟩ (by rw [cv.1]) k0
                          have e1 := q_least1 (l := 1) (c := c) (T := fun l => V 126 (25 * l + (c l).toNat)) hRV (by decide) e0 ⟨cv.2.1.symm, hc1⟩ (by rw [cv.2.1]) k1
                          have e2 := q_least1 (l := 2) (c := c) (T := fun l => V 126 (25 * l + (c l).toNat)) hRV (by decide) e1 ⟨cv.2.2.1.symm, hc2⟩ (by rw [cv.2.2.1]) k2
                          have e3 := q_least1 (l := 3) (c := c) (T := fun l => V 126 (25 * l + (c l).toNat)) hRV (by decide) e2 ⟨cv.2.2.2.symm, by omega⟩ (by rw [cv.2.2.2]) k3
                          have w1k : ∀ k : Nat, k < 81 → Wd 1 k = N k := fun k hk => by rw [wd 1 (by decide), hW 1 (by decide) (by decide)]; exact s2 k hk
                          have hav : ∀ l : Nat, av (Wd 1) l = av N l := fun l => av_c l w1k
                          have tab : ∀ l : Nat, l < 4 → av N l = 1 → V 126 (25 * l + (c l).toNat) = Wd 26 (25 * l + (Wd 27 l).toNat) ∧ 0 ≤ V 126 (25 * l + (c l).toNat) := fun l hl hal => by
                            have k := hT l (c l).toNat hl (by have := rc4 l hl; omega) hal
                            rw [q27 l hl, hV 126 (by decide), wd 26 (by decide), hW 26 (by decide) (by decide)]
                            exact k
                          have sum : cs4 c 4 = (n : Int) := by
                            show ((((0 : Int) + c 0) + c 1) + c 2) + c 3 = n
                            rw [cv.1, cv.2.1, cv.2.2.1, cv.2.2.2]
                            omega
                          have go : ∀ (best2 : Int) (V3 W3 : Nat → Nat → Int), -1 ≤ best2 → (∀ i : Nat, i ≠ 127 → V3 i = U i) → (∀ i : Nat, i ≠ 27 → i ≠ 28 → W3 i = W1 i) → (∀ j : Nat, j < 4 → V3 127 j = W3 28 j) → lop3 f3 dX (c2 + 1) best2 V3 (z, V2) → lop3 g3 dM (c2 + 1) best2 W3 (b, X) → z = b ∧ ∀ j : Nat, j < 4 → V2 127 j = X 28 j := fun best2 V3 W3 h1 h2 h3 h4 hx hm => ih3 g3 (c2 + 1) best2 V3 W3 (by omega) h1 h2 h3 h4 hx hm
                          have hWd : ∀ i : Nat, i ≠ 27 → i ≠ 28 → Wd i = W1 i := fun i i1 i2 => by rw [wd i i1]; exact hW i i1 i2
                          have hEd : ∀ j : Nat, j < 4 → V 127 j = Wd 28 j := fun j hj => by rw [wd 28 (by decide)]; exact hE j hj
                          rcases q_mayBe (c := c) (fun l hl => ⟨q27 l hl, (rc4 l hl).1, by have := (rc4 l hl).2; omega⟩) sum hy with ⟨y1, y2⟩ | ⟨y1, y2⟩
                          · rw [if_neg (by omega)] at hm
                            obtain ⟨u, hu, hm⟩ := hm
                            have lb : ∀ {u : Int}, f_m_leastBy Wd Jm Rm u → u = r3 := fun {u} hu => by
                              have q := q_leastBy (T := fun l => V 126 (25 * l + (c l).toNat)) (fun l hl hal => ⟨by rw [q27 l hl]; exact (rc4 l hl).1, (tab l hl (by rw [← hav l]; exact hal)).1⟩) hu
                              rw [q, e3, mlx_ok 4 (fun q hq hq2 => y2 q hq (by rw [hav q]; exact hq2))]
                              exact lbx_av hav 4
                            have eu := lb hu
                            by_cases gu : best < u
                            · rw [if_pos gu] at hm
                              rw [if_neg (by omega)] at hx
                              obtain ⟨u2, hu2, hm⟩ := hm
                              have eu2 := lb hu2
                              obtain ⟨W3, w31, w32, hm⟩ := sp_copy (G := fun V => lop3 g3 dM (c2 + 1) u2 V) rfl hm
                              obtain ⟨Va, fa, hx⟩ := rdb_g hx
                              obtain ⟨Vb, fb, hx⟩ := rdb_g hx
                              obtain ⟨Vc, fc, hx⟩ := rdb_g hx
                              obtain ⟨Vd, fd, hx⟩ := rdb_g hx
                              have vd : ∀ i : Nat, i ≠ 127 → Vd i = V i := fun i hi => by rw [← fd, up2_c _ _ hi, ← fc, up2_c _ _ hi, ← fb, up2_c _ _ hi, ← fa, up2_c _ _ hi]
                              have vd127 : Vd 127 = up1 (up1 (up1 (up1 (V 127) 0 a) 1 c1) 2 c2) 3 ((n : Int) - a - c1 - c2) := by rw [← fd, up2_row, ← fc, up2_row, ← fb, up2_row, ← fa, up2_row]
                              have v127 : ∀ l : Nat, l < 4 → Vd 127 l = c l := fun l hl => by
                                rw [vd127]
                                rcases (show l = 0 ∨ l = 1 ∨ l = 2 ∨ l = 3 by omega) with rfl | rfl | rfl | rfl
                                · exact cv.1.symm
                                · exact cv.2.1.symm
                                · exact cv.2.2.1.symm
                                · exact cv.2.2.2.symm
                              rw [eu2] at hm
                              exact go r3 Vd W3 (by omega) (fun i hi => by rw [vd i hi]; exact hV i hi) (fun i i1 i2 => by rw [w31 i i2]; exact hWd i i1 i2) (fun j hj => by rw [v127 j hj, w32 j hj, q27 j hj]) hx hm
                            · rw [if_neg gu] at hm
                              rw [if_pos (by omega)] at hx
                              exact go best V Wd hbest hV hWd hEd hx hm
                          · rw [if_pos y1] at hm
                            have er : r3 = -1 := by
                              rw [e3]
                              exact mlx_no 4 (fun q hq hal => (tab q hq hal).2) (fun hh => y2 (fun q hq hq2 => hh q hq (by rw [← hav q]; exact hq2)))
                            rw [if_pos (by omega)] at hx
                            exact go best V Wd hbest hV hWd hEd hx hm
                  exact inn _ _ 0 best V W (by omega) hbest hV hW hE hxB hmB
          exact mid _ _ 0 best V W (by omega) hbest hV hW hE hxA hmA
  exact key _ _ 0 (-1) U W1 (by omega) (by omega) (fun _ _ => rfl) (fun _ _ _ => rfl) s5 hx9 hm
