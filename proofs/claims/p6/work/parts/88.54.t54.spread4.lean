-- answers: spread (own work)
def SW (V W : Nat → Nat → Int) : Prop := ∀ j : Nat, j < 4 → V 127 j = W 28 j
theorem tdbits : ∀ s : Nat, s < 16 → ∀ t : Nat, t < 16 → (∀ l : Nat, l < 4 → bt (t : Int) (l : Int) = 1 → bt (s : Int) (l : Int) = 1) → (iAnd (s : Int) (iXor (t : Int) (-1)) = 0 ↔ (s : Int) = (t : Int)) := by decide +kernel
theorem sp_run {x a b : Int} {V V2 V3 J W X Jm : Nat → Nat → Int} {R Rm : Nat → Nat → Nat} (h : WR R V W) (hS : SW V W) (hx0 : 0 ≤ x ∧ x ≤ 24) (h1 : f_s_fillLasting x V J R V2) (h2 : f_s_spreadBest x V2 J R (a, V3)) (hm : f_m_laysSpread x W Jm Rm (b, X)) : a = b ∧ SW V3 X := by
  obtain ⟨n, rfl⟩ : ∃ n : Nat, x = (n : Int) := ⟨x.toNat, by omega⟩
  unfold f_s_fillLasting at h1
  obtain ⟨V1, k1, -, h1⟩ := h1
  obtain ⟨c1, c2⟩ := q_copy (d := 39) (s := 1) (by omega) k1
  unfold f_m_laysSpread at hm
  have p9 := P9.of (l := 4) c1 c2
  obtain ⟨W2, s1, s2, s3⟩ := sp_fill (n := n) (N := W 1) (by omega) h.1.2 rfl (F := fun V107581 => lop3 (27) (fun rc200882 (z200880 : Int) (z200881 : Int) (V200882 : Nat → Nat → Int) => (if (n : Int) < z200880 then rtn (z200881, V200882) else lop3 (27) (fun rc211658 (z211656 : Int) (z211657 : Int) (V211658 : Nat → Nat → Int) => (if (n : Int) < z200880 + z211656 then rc200882 (z200880 + 1) z211657 V211658 else lop3 (27) (fun rc214082 (z214080 : Int) (z214081 : Int) (V214082 : Nat → Nat → Int) => (if (n : Int) < z200880 + z211656 + z214080 then rc211658 (z211656 + 1) z214081 V214082 else rdb (up2 V214082 27 0 z200880) fun V214283 => rdb (up2 V214283 27 1 z211656) fun V214284 => rdb (up2 V214284 27 2 z214080) fun V214285 => rdb (up2 V214285 27 3 ((n : Int) - z200880 - z211656 - z214080)) fun V214286 => calR (f_m_mayBe (n : Int) V214286 Jm Rm) fun z214287 => fct (0 ≤ z214287 ∧ z214287 ≤ 1) <| jnk (fun (z214317 : Int) (V214318 : Nat → Nat → Int) => rc214082 (z214080 + 1) z214317 V214318) fun jf214318 => (if z214287 = 0 then jf214318 z214081 V214286 else calR (f_m_leastBy V214286 Jm Rm) fun z214320 => (if z214081 < z214320 then calR (f_m_leastBy V214286 Jm Rm) fun z214322 => lop2 (6) (fun rc214342 (z214341 : Int) (V214342 : Nat → Nat → Int) => (if 4 ≤ z214341 then jf214318 z214322 V214342 else rdb (V214342 27 z214341.toNat) fun z214347 => fct (0 ≤ z214347 ∧ z214347 ≤ 24) <| rdb (up2 V214342 28 z214341.toNat z214347) fun V214348 => rc214342 (z214341 + 1) V214348)) 0 V214286 else jf214318 z214081 V214286)))) 0 z211657 V211658)) 0 z200881 V200882)) 0 (-1) V107581) rfl ⟨h.1.1.cg2 (fun i i1 i2 => c2 i (by omega)) (fun _ _ => rfl), fun _ _ => rfl, h.2.2.2.1.1.cg (fun i i1 i2 i3 => c2 i (by omega)) (fun _ _ _ => rfl), p9.2, fun j hj => by rw [c2 127 (by omega)]; exact hS j hj⟩ h1 hm
  exact sp_best (by omega) s1 s2 rfl h2 s3
theorem e_spread {x y a b : Int} {V V2 J W Jm X : Nat → Nat → Int} {R Rm : Nat → Nat → Nat} (h : WR R V W) (hS : SW V W) (hx : f_s_spread x y V J R (a, V2)) (hm : f_m_spread x y W Jm Rm (b, X)) : a = b ∧ SW V2 X := by
  have same : ∀ {c : Int}, rtn (c, V) (a, V2) → rtn (c, W) (b, X) → a = b ∧ SW V2 X := fun h1 h2 => by
    simp only [rtn, Prod.mk.injEq] at h1 h2
    rw [h1.1, h2.1, h1.2, h2.2]
    exact ⟨rfl, hS⟩
  have hL := h.1.1
  have hbits : iAnd (W 1 76) (iXor (W 1 77) (-1)) = 0 ↔ W 1 76 = W 1 77 := by
    have r6 := hL.2.2.2.2.2.1
    have r7 := hL.2.2.2.2.2.2.1
    have k := tdbits (W 1 76).toNat (by omega) (W 1 77).toNat (by omega) (fun l hl hb => by
      rw [show (((W 1 77).toNat : Nat) : Int) = W 1 77 by omega] at hb
      rw [show (((W 1 76).toNat : Nat) : Int) = W 1 76 by omega]
      have hP := hL.1 l hl
      have hd := hP.2.2.2.2.2.2.2.2.1.mp hb
      have e := hP.1
      have br := bt_r (W 1 76) l
      have hd1 := hd.1
      omega)
    rw [show (((W 1 77).toNat : Nat) : Int) = W 1 77 by omega, show (((W 1 76).toNat : Nat) : Int) = W 1 76 by omega] at k
    exact k
  unfold f_s_spread at hx
  unfold f_m_spread at hm
  obtain ⟨z1, h1, -, hx⟩ := hx
  obtain ⟨y1, k1, -, hm⟩ := hm
  have h1 := q_sWithin h1
  have e1 : z1 = y1 := h1.eq (q_mIn k1) Iff.rfl
  subst e1
  by_cases g1 : z1 = 0
  · rw [if_pos g1] at hx hm; exact same hx hm
  rw [if_neg g1] at hx hm
  have q1 := h1.on g1
  obtain ⟨z4, h4, -, hx⟩ := hx
  have h4 := q_sPlace h4
  by_cases g10 : y = 10
  · rw [if_pos g10] at hm
    have z40 : z4 = 0 := by
      rcases h4 with ⟨-, k⟩ | ⟨k, -⟩
      · omega
      · exact k
    rw [if_neg (fun hh => hh z40), if_pos g10] at hx
    obtain ⟨z7, h7, hx⟩ := hx
    obtain ⟨z8, h8, hx⟩ := hx
    have e7 := q_toldP hL h7
    have e8 := q_deadB hL h8
    obtain ⟨w5, ew5, hm⟩ := rdb_g hm
    obtain ⟨w6, ew6, hm⟩ := rdb_g hm
    obtain ⟨w7, ew7, hm⟩ := rdb_g hm
    obtain ⟨w8, ew8, hm⟩ := rdb_g hm
    rw [← ew5, ← ew7, ← ew6] at ew8
    rw [ew8] at hbits
    by_cases gz : ¬ z7 = z8
    · rw [if_pos gz] at hx
      rw [if_pos (fun hh => gz (by rw [e7, e8]; exact hbits.mp hh))] at hm
      obtain ⟨V10, k10, -, hx⟩ := hx
      obtain ⟨z11, V11, k11, -, hx⟩ := hx
      obtain ⟨y10, X10, j10, -, hm⟩ := hm
      simp only [rtn, Prod.mk.injEq] at hx hm
      rw [hx.1, hm.1, hx.2, hm.2]
      exact sp_run h hS q1 k10 k11 j10
    · rw [if_neg gz] at hx
      rw [if_neg (fun hh => hh (hbits.mpr (by rw [← e7, ← e8]; omega)))] at hm
      exact same hx hm
  · rw [if_neg g10] at hm
    obtain ⟨y4, k4, -, hm⟩ := hm
    have e4 : z4 = y4 := h4.eq (q_mIn k4) (by omega)
    subst e4
    by_cases g4 : ¬ z4 = 0
    · rw [if_pos g4] at hx hm
      have q4 := h4.on g4
      obtain ⟨z7, h7, hx⟩ := hx
      obtain ⟨z8, h8, hx⟩ := hx
      have e7 := q_toldP hL h7
      have e8 := q_deadB hL h8
      obtain ⟨w5, ew5, hm⟩ := rdb_g hm
      obtain ⟨w6, ew6, hm⟩ := rdb_g hm
      obtain ⟨w7, ew7, hm⟩ := rdb_g hm
      obtain ⟨w8, ew8, hm⟩ := rdb_g hm
      rw [← ew5, ← ew7, ← ew6] at ew8
      rw [ew8] at hbits
      by_cases gz : ¬ z7 = z8
      · rw [if_pos gz] at hx
        rw [if_pos (fun hh => gz (by rw [e7, e8]; exact hbits.mp hh))] at hm
        obtain ⟨V10, k10, -, hx⟩ := hx
        obtain ⟨z11, V11, k11, -, hx⟩ := hx
        obtain ⟨z12, e12, hx⟩ := rdb_g hx
        obtain ⟨y10, X10, j10, -, hm⟩ := hm
        obtain ⟨y12, f12, hm⟩ := rdb_g hm
        simp only [rtn, Prod.mk.injEq] at hx hm
        obtain ⟨-, r2⟩ := sp_run h hS q1 k10 k11 j10
        rw [hx.1, hm.1, hx.2, hm.2]
        refine ⟨?_, r2⟩
        rw [← e12, ← f12]
        exact r2 _ (by omega)
      · rw [if_neg gz] at hx
        rw [if_neg (fun hh => hh (hbits.mpr (by rw [← e7, ← e8]; omega)))] at hm
        exact same hx hm
    · rw [if_neg g4, if_neg g10] at hx
      rw [if_neg g4] at hm
      exact same hx hm
