-- the tape is emptied on both sides or on none: check, whoDid, rota (own work)
theorem t_check {x y a b : Int} {V V2 J W Jm X : Nat → Nat → Int} {R Rm : Nat → Nat → Nat} (h : WR R V W) (hx : f_s_check x y V J R (a, V2)) (hm : f_m_check x y W Jm Rm (b, X)) : TP V2 X := by
  have hT := h.2.2.2.2
  have same : ∀ {c d : Int}, rtn (c, V) (a, V2) → rtn (d, W) (b, X) → TP V2 X := fun h1 h2 => by
    simp only [rtn, Prod.mk.injEq] at h1 h2
    rw [h1.2, h2.2]
    exact hT
  unfold f_s_check at hx
  unfold f_m_check at hm
  obtain ⟨z1, h1, -, hx⟩ := hx
  obtain ⟨y1, k1, -, hm⟩ := hm
  obtain ⟨e1, q1⟩ := h.1.1.plant h1 k1
  subst e1
  by_cases g1 : z1 = 0
  · rw [if_pos g1] at hx hm; exact same hx hm
  rw [if_neg g1] at hx hm
  obtain ⟨z4, h4, -, hx⟩ := hx
  obtain ⟨y4, k4, -, hm⟩ := hm
  have h4 := q_sWithin h4
  have e4 : z4 = y4 := h4.eq (q_mIn k4) Iff.rfl
  subst e4
  by_cases g4 : z4 = 0
  · rw [if_pos g4] at hx hm; exact same hx hm
  rw [if_neg g4] at hx hm
  obtain ⟨z7, e7, r7, hx⟩ := rdb_g hx
  obtain ⟨y7, f7, -, hm⟩ := rdb_g hm
  have e : z7 = y7 := by rw [← e7, ← f7]; exact hT.1
  subst e
  obtain ⟨y8, f8, -, hm⟩ := rdb_g hm
  have e8 : y8 = z7 / 4 := by rw [← f8, iDiv_e ⟨by omega, by omega⟩ (by decide), Int.tdiv_eq_ediv_of_nonneg r7.1]
  by_cases g10 : 4 * y ≤ z7
  · rw [if_pos g10] at hx
    rw [if_pos (by omega)] at hm
    have c1 : V2 58 1 = 0 := by
      refine lop2_k (fun _ _ => True) (fun r : Int × (Nat → Nat → Int) => r.2 58 1 = 0) (fun rc hrc za zb _ r h => ?_) _ _ _ trivial _ hx
      have fin : ∀ c : Int, (rdb (up2 V 58 1 0) fun V91 => rtn (c, V91)) r → r.2 58 1 = 0 := fun c h => by
        obtain ⟨V9, e9, h⟩ := rdb_g h
        simp only [rtn] at h
        rw [h]
        show V9 58 1 = 0
        rw [← e9, up2_s]
      by_cases ga : y ≤ za
      · rw [if_pos ga] at h; exact fin _ h
      · rw [if_neg ga] at h
        by_cases gb : ¬ zb = (-1)
        · rw [if_pos gb] at h; exact fin _ h
        · rw [if_neg gb] at h
          obtain ⟨w, -, h⟩ := h
          obtain ⟨_, -, h⟩ := rdb_g h
          obtain ⟨w2, -, h⟩ := rdb_g h
          have h := jnk_d h
          by_cases gc : w = w2
          · rw [if_pos gc] at h; exact hrc _ _ trivial _ h
          · rw [if_neg gc] at h; exact hrc _ _ trivial _ h
    have c2 : X 0 4 = 0 := by
      obtain ⟨W9, f9, hm⟩ := rdb_g hm
      refine lop1_k (fun _ => True) (fun r : Int × (Nat → Nat → Int) => r.2 0 4 = 0) (fun rc hrc za _ r h => ?_) _ _ trivial _ hm
      have fin : ∀ c : Int, rtn (c, W9) r → r.2 0 4 = 0 := fun c h => by
        simp only [rtn] at h
        rw [h]
        show W9 0 4 = 0
        rw [← f9, up2_s]
      by_cases ga : y ≤ za
      · rw [if_pos ga] at h; exact fin _ h
      · rw [if_neg ga] at h
        obtain ⟨w, -, h⟩ := h
        obtain ⟨w2, -, h⟩ := rdb_g h
        by_cases gc : w = w2
        · rw [if_pos gc] at h; exact hrc _ trivial _ h
        · rw [if_neg gc] at h; exact fin _ h
    exact TP.nil c1 c2
  · rw [if_neg g10] at hx
    rw [if_neg (by omega)] at hm
    exact same hx hm
theorem t_whoDid {x y z u v a b : Int} {V V2 J W Jm X : Nat → Nat → Int} {R Rm : Nat → Nat → Nat} (h : TP V W) (hx : f_s_whoDid x y z u v V J R (a, V2)) (hm : f_m_whoDid x y z u v W Jm Rm (b, X)) : TP V2 X := by
  have same : ∀ {c d : Int}, rtn (c, V) (a, V2) → rtn (d, W) (b, X) → TP V2 X := fun h1 h2 => by
    simp only [rtn, Prod.mk.injEq] at h1 h2
    rw [h1.2, h2.2]
    exact h
  unfold f_s_whoDid at hx
  unfold f_m_whoDid at hm
  obtain ⟨z1, h1, -, hx⟩ := hx
  obtain ⟨y1, k1, -, hm⟩ := hm
  have h1 := q_sWithin h1
  have e1 : z1 = y1 := h1.eq (q_mIn k1) Iff.rfl
  subst e1
  by_cases g1 : z1 = 0
  · rw [if_pos g1] at hx hm; exact same hx hm
  rw [if_neg g1] at hx hm
  obtain ⟨z4, h4, -, hx⟩ := hx
  obtain ⟨y4, k4, -, hm⟩ := hm
  have h4 := q_sWithin h4
  have e4 : z4 = y4 := h4.eq (q_mIn k4) Iff.rfl
  subst e4
  by_cases g4 : z4 = 0
  · rw [if_pos g4] at hx hm; exact same hx hm
  rw [if_neg g4] at hx hm
  have q4 := h4.on g4
  obtain ⟨zb, hb, -, hx⟩ := hx
  obtain ⟨yb, kb, hm⟩ := hm
  have eb : zb = yb := by rw [q_bitCount hb ⟨by omega, by omega⟩, q_bits kb]
  subst eb
  by_cases gb : zb ≤ 5
  · rw [if_pos gb] at hx
    rw [if_neg (by omega)] at hm
    obtain ⟨z7, h7, -, hx⟩ := hx
    obtain ⟨y7, k7, -, hm⟩ := hm
    have h7 := q_sWithin h7
    have e7 : z7 = y7 := h7.eq (q_mIn k7) Iff.rfl
    subst e7
    by_cases g7 : z7 = 0
    · rw [if_pos g7] at hx hm; exact same hx hm
    rw [if_neg g7] at hx hm
    obtain ⟨z8, h8, -, hx⟩ := hx
    obtain ⟨y8, k8, -, hm⟩ := hm
    have h8 := q_sWithin h8
    have e8 : z8 = y8 := h8.eq (q_mIn k8) Iff.rfl
    subst e8
    by_cases g8 : z8 = 0
    · rw [if_pos g8] at hx hm; exact same hx hm
    rw [if_neg g8] at hx hm
    obtain ⟨z9, h9, -, hx⟩ := hx
    obtain ⟨y9, k9, -, hm⟩ := hm
    have h9 := q_sWithin h9
    have e9 : z9 = y9 := h9.eq (q_mIn k9) Iff.rfl
    subst e9
    by_cases g9 : z9 = 0
    · rw [if_neg (fun hh => hh g9)] at hx
      rw [if_pos g9] at hm
      exact same hx hm
    rw [if_pos g9] at hx
    rw [if_neg g9] at hm
    obtain ⟨z10, e10, -, hx⟩ := rdb_g hx
    obtain ⟨y10, f10, -, hm⟩ := rdb_g hm
    have e : z10 = y10 := by rw [← e10, ← f10]; exact h.1
    subst e
    by_cases g10 : x + 1 ≤ z10
    · rw [if_pos g10] at hx hm
      have c1 : V2 58 1 = 0 := by
        refine lop4_k (fun _ _ _ _ => True) (fun r : Int × (Nat → Nat → Int) => r.2 58 1 = 0) (fun rc hrc za zb zc zd _ r h => ?_) _ _ _ _ _ trivial _ hx
        by_cases ga : x ≤ za
        · rw [if_pos ga] at h
          obtain ⟨V9, e9, h⟩ := rdb_g h
          have fin : ∀ c : Int, rtn (c, V9) r → r.2 58 1 = 0 := fun c h => by
            simp only [rtn] at h
            rw [h]
            show V9 58 1 = 0
            rw [← e9, up2_s]
          by_cases gv : ¬ v = 0
          · rw [if_pos gv] at h
            by_cases gv1 : ¬ v = 1
            · rw [if_pos gv1] at h
              by_cases gw : ¬ lcI zd 0 = 0
              · rw [if_pos gw] at h; exact fin _ h
              · rw [if_neg gw] at h; exact fin _ h
            · rw [if_neg gv1] at h; exact fin _ h
          · rw [if_neg gv] at h; exact fin _ h
        · rw [if_neg ga] at h
          refine lop3_k (fun _ _ _ => True) (fun r : Int × (Nat → Nat → Int) => r.2 58 1 = 0) (fun rc2 hrc2 wa wb wc _ r h => ?_) _ _ _ _ trivial _ h
          by_cases gw : y < wa
          · rw [if_pos gw] at h
            have h := jnk_d h
            by_cases gx : ¬ wc = 0
            · rw [if_pos gx] at h
              obtain ⟨_, -, h⟩ := rdb_g h
              obtain ⟨_, -, h⟩ := rdb_g h
              exact hrc _ _ _ _ trivial _ h
            · rw [if_neg gx] at h
              by_cases gy : ¬ zc = (-2)
              · rw [if_pos gy] at h
                obtain ⟨_, -, h⟩ := rdb_g h
                obtain ⟨_, -, h⟩ := rdb_g h
                exact hrc _ _ _ _ trivial _ h
              · rw [if_neg gy] at h
                obtain ⟨_, -, h⟩ := rdb_g h
                obtain ⟨_, -, h⟩ := rdb_g h
                exact hrc _ _ _ _ trivial _ h
          · rw [if_neg gw] at h
            obtain ⟨wd, -, -, h⟩ := rdb_g h
            have h := jnk_d h
            by_cases gx : ¬ wd = wa
            · rw [if_pos gx] at h; exact hrc2 _ _ _ trivial _ h
            · rw [if_neg gx] at h
              obtain ⟨_, -, -, h⟩ := h
              obtain ⟨_, -, -, h⟩ := rdb_g h
              obtain ⟨we, -, -, h⟩ := h
              by_cases gy : we = 0
              · rw [if_pos gy] at h; exact hrc2 _ _ _ trivial _ h
              · rw [if_neg gy] at h
                obtain ⟨_, -, h⟩ := rdb_g h
                obtain ⟨_, -, -, h⟩ := rdb_g h
                exact hrc2 _ _ _ trivial _ h
      have c2 : X 0 4 = 0 := by
        obtain ⟨W9, f9, hm⟩ := rdb_g hm
        have fin : ∀ (c : Int) (r : Int × (Nat → Nat → Int)), rtn (c, W9) r → r.2 0 4 = 0 := fun c r h => by
          simp only [rtn] at h
          rw [h]
          show W9 0 4 = 0
          rw [← f9, up2_s]
        refine lop4_k (fun _ _ _ _ => True) (fun r : Int × (Nat → Nat → Int) => r.2 0 4 = 0) (fun rc hrc za zb zc zd _ r h => ?_) _ _ _ _ _ trivial _ hm
        by_cases ga : x ≤ za
        · rw [if_pos ga] at h
          by_cases gv : ¬ v = 0
          · rw [if_pos gv] at h
            by_cases gv1 : ¬ v = 1
            · rw [if_pos gv1] at h
              by_cases gw : ¬ lcI zd 0 = 0
              · rw [if_pos gw] at h; exact fin _ _ h
              · rw [if_neg gw] at h; exact fin _ _ h
            · rw [if_neg gv1] at h; exact fin _ _ h
          · rw [if_neg gv] at h; exact fin _ _ h
        · rw [if_neg ga] at h
          refine lop3_k (fun _ _ _ => True) (fun r : Int × (Nat → Nat → Int) => r.2 0 4 = 0) (fun rc2 hrc2 wa wb wc _ r h => ?_) _ _ _ _ trivial _ h
          by_cases gw : 256 ≤ wa
          · rw [if_pos gw] at h
            obtain ⟨_, -, h⟩ := rdb_g h
            have h := jnk_d h
            by_cases gx : ¬ wc = 0
            · rw [if_pos gx] at h
              obtain ⟨_, -, h⟩ := rdb_g h
              exact hrc _ _ _ _ trivial _ h
            · rw [if_neg gx] at h
              by_cases gy : ¬ zc = (-2)
              · rw [if_pos gy] at h
                obtain ⟨_, -, h⟩ := rdb_g h
                exact hrc _ _ _ _ trivial _ h
              · rw [if_neg gy] at h
                obtain ⟨_, -, h⟩ := rdb_g h
                exact hrc _ _ _ _ trivial _ h
          · rw [if_neg gw] at h
            obtain ⟨_, -, h⟩ := rdb_g h
            obtain ⟨wd, -, -, h⟩ := rdb_g h
            have h := jnk_d h
            by_cases gx : ¬ wd = 0
            · rw [if_pos gx] at h; exact hrc2 _ _ _ trivial _ h
            · rw [if_neg gx] at h
              obtain ⟨_, -, -, h⟩ := rdb_g h
              obtain ⟨_, -, -, h⟩ := rdb_g h
              obtain ⟨_, -, h⟩ := h
              obtain ⟨_, -, h⟩ := rdb_g h
              obtain ⟨_, -, h⟩ := rdb_g h
              obtain ⟨_, -, h⟩ := rdb_g h
              obtain ⟨we, -, h⟩ := h
              obtain ⟨_, -, -, h⟩ := rdb_g h
              obtain ⟨wf, -, -, h⟩ := rdb_g h
              by_cases gy : we = wf
              · rw [if_pos gy] at h
                obtain ⟨_, -, h⟩ := rdb_g h
                obtain ⟨_, -, -, h⟩ := rdb_g h
                exact hrc2 _ _ _ trivial _ h
              · rw [if_neg gy] at h; exact hrc2 _ _ _ trivial _ h
      exact TP.nil c1 c2
    · rw [if_neg g10] at hx hm; exact same hx hm
  · rw [if_neg gb] at hx
    rw [if_pos (by omega)] at hm
    exact same hx hm
/-- what is left of a rota on the reference's side -/
def RW (W X : Nat → Nat → Int) : Prop := X 0 4 = 0 ∧ ∀ k : Nat, k < 81 → X 1 k = W 1 k
theorem rw_loop1 {x c : Int} {W J : Nat → Nat → Int} {R : Nat → Nat → Nat} {b : (Int → (Nat → Nat → Int) → Int × (Nat → Nat → Int) → Prop) → Int → (Nat → Nat → Int) → Int × (Nat → Nat → Int) → Prop}
    (hb : b = (fun rc90 (z89 : Int) (V90 : Nat → Nat → Int) => rdb (V90 0 5) fun z91 => fct (0 ≤ z91 ∧ z91 ≤ 220) <| rdb (V90 0 6) fun z92 => fct (0 ≤ z92 ∧ z92 ≤ 220) <| rdb (V90 0 46) fun z93 => fct (0 ≤ z93 ∧ z93 ≤ 84) <| rdb (V90 0 47) fun z94 => fct (0 ≤ z94 ∧ z94 ≤ 12) <| (if z89 = 0 then rdb (up2 V90 0 4 0) fun V96 => rdb (V96 0 7) fun z97 => rtn (z97, V96) else (if z92 ≤ z91 then rdb (up2 V90 0 4 0) fun V108 => (if ¬ c = 0 then calUM 16925072156758100966113280 V108 (f_m_goesByRota x V108 J R) fun V110 => (if ¬ c = 1 then rdb (V110 0 50) fun z112 => rtn (z112, V110) else rdb (V110 0 49) fun z113 => rtn (z113, V110)) else rtn (z93, V108)) else calVM 160 V90 (f_m_takes 47 V90 J R) fun z114 V114 => fct (0 ≤ z114 ∧ z114 ≤ 1) <| rdb (V114 0 5) fun z115 => fct (0 ≤ z115 ∧ z115 ≤ 220) <| (if z114 = 0 then rc90 0 V114 else calVM 19807040628566295504618520736 V114 (f_m_readsWeek V114 J R) fun z118 V118 => fct (0 ≤ z118 ∧ z118 ≤ 1) <| rdb (V118 0 6) fun z119 => fct (0 ≤ z119 ∧ z119 ≤ 220) <| rdb (V118 0 5) fun z120 => fct (0 ≤ z120 ∧ z120 ≤ 220) <| (if z118 = 0 then rc90 0 V118 else rc90 1 V118))))))
    {n : Nat} {w : Int} {V : Nat → Nat → Int} (hV : ∀ k : Nat, k < 81 → V 1 k = W 1 k) {r : Int × (Nat → Nat → Int)} (h : lop2 n b w V r) : RW W r.2 := by
  refine lop2_k (fun _ V => ∀ k : Nat, k < 81 → V 1 k = W 1 k) (fun r : Int × (Nat → Nat → Int) => RW W r.2) (fun rc hrc z V hV r h => ?_) _ _ _ hV _ h
  rw [hb] at h
  obtain ⟨_, -, -, h⟩ := rdb_g h
  obtain ⟨_, -, -, h⟩ := rdb_g h
  obtain ⟨_, -, -, h⟩ := rdb_g h
  obtain ⟨_, -, -, h⟩ := rdb_g h
  by_cases g : z = 0
  · rw [if_pos g] at h
    obtain ⟨V9, e9, h⟩ := rdb_g h
    obtain ⟨_, -, h⟩ := rdb_g h
    simp only [rtn] at h
    subst h
    show RW W V9
    exact ⟨by rw [← e9, up2_s], fun k hk => by rw [← e9, up2_c _ _ (by decide)]; exact hV k hk⟩
  · rw [if_neg g] at h
    split at h
    · obtain ⟨V9, e9, h⟩ := rdb_g h
      have hV9 : RW W V9 := ⟨by rw [← e9, up2_s], fun k hk => by rw [← e9, up2_c _ _ (by decide)]; exact hV k hk⟩
      split at h
      · obtain ⟨V8, h8, hF, h⟩ := h
        have hV8 : RW W V8 := ⟨by rw [hF.fl 4 (by decide)]; exact hV9.1, fun k hk => by rw [k_goesByRota h8 k hk]; exact hV9.2 k hk⟩
        split at h
        · obtain ⟨_, -, h⟩ := rdb_g h
          simp only [rtn] at h
          subst h
          exact hV8
        · obtain ⟨_, -, h⟩ := rdb_g h
          simp only [rtn] at h
          subst h
          exact hV8
      · simp only [rtn] at h
        subst h
        exact hV9
    · obtain ⟨_, V2, -, hF2, -, h⟩ := h
      have hV2 : ∀ k : Nat, k < 81 → V2 1 k = W 1 k := fun k hk => by rw [hF2.rw 1 (by decide) (by decide)]; exact hV k hk
      obtain ⟨_, -, -, h⟩ := rdb_g h
      split at h
      · exact hrc _ _ hV2 _ h
      · obtain ⟨_, V3, -, hF3, -, h⟩ := h
        have hV3 : ∀ k : Nat, k < 81 → V3 1 k = W 1 k := fun k hk => by rw [hF3.rw 1 (by decide) (by decide)]; exact hV2 k hk
        obtain ⟨_, -, -, h⟩ := rdb_g h
        obtain ⟨_, -, -, h⟩ := rdb_g h
        split at h
        · exact hrc _ _ hV3 _ h
        · exact hrc _ _ hV3 _ h
