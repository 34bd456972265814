-- answers: share (own work)
def bo (N : Nat → Int) : Nat → Int
  | 0 => -2
  | p + 1 => if N (68 + p) ≤ 0 then bo N p else if bo N p = -2 then (p : Int) else if N (68 + p) ≤ N (68 + (bo N p).toNat) then bo N p else (p : Int)
theorem bo_r (N : Nat → Int) : ∀ p : Nat, bo N p = -2 ∨ (0 ≤ bo N p ∧ bo N p < p ∧ 0 < N (68 + (bo N p).toNat)) := by
  intro p
  induction p with
  | zero => exact Or.inl rfl
  | succ p ih =>
    have e : bo N (p + 1) = if N (68 + p) ≤ 0 then bo N p else if bo N p = -2 then (p : Int) else if N (68 + p) ≤ N (68 + (bo N p).toNat) then bo N p else (p : Int) := rfl
    have new : 0 < N (68 + p) → (p : Int) = -2 ∨ (0 ≤ (p : Int) ∧ (p : Int) < ((p + 1 : Nat) : Int) ∧ 0 < N (68 + ((p : Int)).toNat)) := fun h => Or.inr ⟨by omega, by omega, by rw [Int.toNat_natCast]; exact h⟩
    have old : bo N p = -2 ∨ (0 ≤ bo N p ∧ bo N p < ((p + 1 : Nat) : Int) ∧ 0 < N (68 + (bo N p).toNat)) := by
      rcases ih with ih | ih
      · exact Or.inl ih
      · exact Or.inr ⟨ih.1, by omega, ih.2.2⟩
    rw [e]
    by_cases g1 : N (68 + p) ≤ 0
    · rw [if_pos g1]; exact old
    · rw [if_neg g1]
      by_cases g2 : bo N p = -2
      · rw [if_pos g2]; exact new (by omega)
      · rw [if_neg g2]
        by_cases g3 : N (68 + p) ≤ N (68 + (bo N p).toNat)
        · rw [if_pos g3]; exact old
        · rw [if_neg g3]; exact new (by omega)
theorem sh_x {V : Nat → Nat → Int} {N : Nat → Int} {F : Int → Int → Prop} {r : Int} {b : (Int → Int → Int → Prop) → Int → Int → Int → Prop} (hR : RLz 1 V N) (hG : GI N) (hD : 0 ≤ N 79 ∧ N 79 ≤ 9999)
    (hb : b = (fun rc55 (z53 : Int) (z54 : Int) => (if 8 ≤ z53 then F z54 else rdb (1 + 11 + 1 * z53.toNat) fun c77 => rdb (V c77 3) fun z78 => rdb (wr (z54 + z78)) fun z79 => rc55 (z53 + 1) z79))) (h : lop2 10 b 0 0 r) : F (cupS N 8) r := by
  have key : ∀ (n p : Nat), p ≤ 8 → lop2 n b (p : Int) (cupS N p) r → F (cupS N 8) r := by
    intro n
    induction n with
    | zero => intro p _ h; exact False.elim h
    | succ n ih =>
      intro p hp h
      rw [lop2_s hb] at h
      by_cases g : (8 : Int) ≤ p
      · rw [if_pos g] at h
        have e : p = 8 := by omega
        rw [e] at h
        exact h
      · rw [if_neg g] at h
        obtain ⟨c, ec, h⟩ := rdb_g h
        obtain ⟨z, ez, h⟩ := rdb_g h
        obtain ⟨w, ew, h⟩ := rdb_g h
        rw [Int.toNat_natCast, Nat.one_mul] at ec
        have e1 : z = N (68 + p) := by rw [← ez, ← ec]; exact (hR.2.1 p (by omega)).2.2.2
        have k1 := cupS_b hG hD p (by omega)
        have k2 := hG.2 p (by omega)
        have k3 : N (68 + p) ≤ 3996 * N 79 + 0 := k2.2.2
        rw [e1, wr_id ⟨by omega, by omega⟩] at ew
        refine ih (p + 1) (by omega) ?_
        have e2 : cupS N (p + 1) = w := ew
        rw [e2, Int.natCast_add]
        exact h
  exact key _ 0 (by omega) h
theorem sh_m {W J : Nat → Nat → Int} {R : Nat → Nat → Nat} {F : Int → Int → Int → Prop} {r : Int} {b : (Int → Int → Int → Int → Prop) → Int → Int → Int → Int → Prop} (hG : GI (W 1)) (hD : 0 ≤ W 1 79 ∧ W 1 79 ≤ 9999)
    (hb : b = (fun rc189 (z186 : Int) (z187 : Int) (z188 : Int) => (if 8 ≤ z186 then F z187 z188 else calR (f_m_isPerson z186 W J R) fun z273 => fct (0 ≤ z273 ∧ z273 ≤ 1) <| jnk (fun (z281 : Int) (z282 : Int) => rc189 (z186 + 1) z282 z281) fun jf283 => (if ¬ z273 = 0 then rdb (W 1 ((z186 + 68).toNat)) fun z286 => rdb (wr (z188 + z286)) fun z287 => (if z286 ≤ 0 then jf283 z287 z187 else (if z187 = (-2) then jf283 z287 z186 else rdb (W 1 ((z187 + 68).toNat)) fun z290 => (if z286 ≤ z290 then jf283 z287 z187 else jf283 z287 z186))) else jf283 z188 z187)))) (h : lop3 10 b 0 (-2) 0 r) : F (bo (W 1) 8) (cupS (W 1) 8) r := by
  have key : ∀ (n p : Nat), p ≤ 8 → lop3 n b (p : Int) (bo (W 1) p) (cupS (W 1) p) r → F (bo (W 1) 8) (cupS (W 1) 8) r := by
    intro n
    induction n with
    | zero => intro p _ h; exact False.elim h
    | succ n ih =>
      intro p hp h
      rw [lop3_s hb] at h
      by_cases g : (8 : Int) ≤ p
      · rw [if_pos g] at h
        have e : p = 8 := by omega
        rw [e] at h
        exact h
      · rw [if_neg g] at h
        obtain ⟨y, hy, -, h⟩ := h
        have hy := q_mPerson hy
        have h := jnk_d h
        have k1 := cupS_b hG hD p (by omega)
        have k2 := hG.2 p (by omega)
        have k3 : W 1 (68 + p) ≤ 3996 * W 1 79 + 0 := k2.2.2
        have eb : bo (W 1) (p + 1) = if W 1 (68 + p) ≤ 0 then bo (W 1) p else if bo (W 1) p = -2 then (p : Int) else if W 1 (68 + p) ≤ W 1 (68 + (bo (W 1) p).toNat) then bo (W 1) p else (p : Int) := rfl
        have ec : cupS (W 1) (p + 1) = cupS (W 1) p + W 1 (68 + p) := rfl
        have nx : ∀ (s t : Int), s = bo (W 1) (p + 1) → t = cupS (W 1) (p + 1) → lop3 n b ((p : Int) + 1) s t r → F (bo (W 1) 8) (cupS (W 1) 8) r := fun s t es et h => by
          refine ih (p + 1) (by omega) ?_
          rw [← es, ← et, Int.natCast_add]
          exact h
        by_cases gy : ¬ y = 0
        · rw [if_pos gy] at h
          obtain ⟨z, ez, h⟩ := rdb_g h
          obtain ⟨w, ew, h⟩ := rdb_g h
          rw [show ((p : Int) + 68).toNat = 68 + p by omega] at ez
          rw [← ez, wr_id ⟨by omega, by omega⟩] at ew
          by_cases g1 : z ≤ 0
          · rw [if_pos g1] at h
            exact nx _ _ (by rw [eb, ez, if_pos g1]) (by rw [ec, ew]) h
          · rw [if_neg g1] at h
            by_cases g2 : bo (W 1) p = (-2)
            · rw [if_pos g2] at h
              exact nx _ _ (by rw [eb, ez, if_neg g1, if_pos g2]) (by rw [ec, ew]) h
            · rw [if_neg g2] at h
              obtain ⟨v, ev, h⟩ := rdb_g h
              have br := (bo_r (W 1) p).resolve_left g2
              rw [show (bo (W 1) p + 68).toNat = 68 + (bo (W 1) p).toNat by omega] at ev
              by_cases g3 : z ≤ v
              · rw [if_pos g3] at h
                exact nx _ _ (by rw [eb, ez, if_neg g1, if_neg g2, ev, if_pos g3]) (by rw [ec, ew]) h
              · rw [if_neg g3] at h
                exact nx _ _ (by rw [eb, ez, if_neg g1, if_neg g2, ev, if_neg g3]) (by rw [ec, ew]) h
        · rw [if_neg gy] at h
          have hb0 : bt (W 1 78) p = 0 := by
            have r := bt_r (W 1 78) p
            have n := hy.off (by omega)
            omega
          have e0 := k2.1 hb0
          exact nx _ _ (by rw [eb, if_pos (by omega)]) (by rw [ec, e0]; omega) h
  exact key _ 0 (by omega) h
theorem q_theOne {V J : Nat → Nat → Int} {R : Nat → Nat → Nat} {N : Nat → Int} {r : Int} (hR : RLz 1 V N) (h : f_s_theOne V J R r) : r = bo N 8 := by
  unfold f_s_theOne at h
  obtain ⟨b, hb, h9⟩ := lop3_g h
  have key : ∀ (n p : Nat) (v : Int), p ≤ 8 → v = (if bo N p = -2 then 0 else N (68 + (bo N p).toNat)) → lop3 n b (p : Int) v (bo N p) r → r = bo N 8 := by
    intro n
    induction n with
    | zero => intro p v _ _ h; exact False.elim h
    | succ n ih =>
      intro p v hp hv h
      rw [lop3_s hb] at h
      by_cases g : (8 : Int) ≤ p
      · rw [if_pos g] at h
        have h : r = bo N p := h
        rw [h, show p = 8 by omega]
      · rw [if_neg g] at h
        obtain ⟨c, ec, h⟩ := rdb_g h
        obtain ⟨z, ez, h⟩ := rdb_g h
        have h := jnk_d h
        rw [Int.toNat_natCast, Nat.one_mul] at ec
        have e1 : z = N (68 + p) := by rw [← ez, ← ec]; exact (hR.2.1 p (by omega)).2.2.2
        have eb : bo N (p + 1) = if N (68 + p) ≤ 0 then bo N p else if bo N p = -2 then (p : Int) else if N (68 + p) ≤ N (68 + (bo N p).toNat) then bo N p else (p : Int) := rfl
        have br := bo_r N p
        have nx : ∀ (s v2 : Int), s = bo N (p + 1) → v2 = (if s = -2 then 0 else N (68 + s.toNat)) → lop3 n b ((p : Int) + 1) v2 s r → r = bo N 8 := fun s v2 es ev h => by
          refine ih (p + 1) v2 (by omega) (by rw [← es]; exact ev) ?_
          rw [← es, Int.natCast_add]
          exact h
        by_cases gz : z ≤ v
        · rw [if_pos gz] at h
          refine nx _ _ ?_ hv h
          rw [eb]
          by_cases g1 : N (68 + p) ≤ 0
          · rw [if_pos g1]
          · rw [if_neg g1]
            by_cases g2 : bo N p = -2
            · rw [if_pos g2] at hv
              omega
            · rw [if_neg g2] at hv ⊢
              rw [if_pos (by omega)]
        · rw [if_neg gz] at h
          refine nx _ _ ?_ ?_ h
          · rw [eb]
            by_cases g2 : bo N p = -2
            · rw [if_pos g2] at hv ⊢
              rw [if_neg (by omega)]
            · rw [if_neg g2] at hv ⊢
              rw [if_neg (by omega), if_neg (by omega)]
          · rw [if_neg (by omega), Int.toNat_natCast]
            exact e1
  exact key _ 0 0 (by omega) (by rw [if_pos (show bo N 0 = -2 from rfl)]) h9
theorem e_share {x y a b : Int} {V J W Jm : Nat → Nat → Int} {R Rm : Nat → Nat → Nat} (h : WR R V W) (hG : GW W) (hx : f_s_share x y V J R a) (hm : f_m_share x y W Jm Rm b) : a = b := by
  have hR := h.1.1
  have hD : 0 ≤ W 1 79 ∧ W 1 79 ≤ 9999 := ⟨hR.2.2.2.2.2.2.2.2.1, h.1.2⟩
  have hc := cupS_b hG.1 hD 8 (by omega)
  unfold f_s_share at hx
  unfold f_m_share at hm
  have hm := sh_m (F := fun z187 z188 => (if ¬ x = (-1) then calR (f_m_isPerson x W Jm Rm) fun z262 => fct (0 ≤ z262 ∧ z262 ≤ 1) <| (if z262 = 0 then rtn ((-1)) else calR (f_m_in y 0 1) fun z265 => fct (0 ≤ z265 ∧ z265 ≤ 1) <| (if ¬ z265 = 0 then (if ¬ z188 = 0 then rdb (W 1 ((x + 68).toNat)) fun z269 => calR (f_m_through z269 z188 y) fun z270 => rdb (iL z270) fun z271 => rtn z271 else rtn y) else rtn ((-1)))) else (if ¬ y = 0 then rtn ((-1)) else rtn z187))) hG.1 hD rfl hm
  have sumx : ∀ {r : Int}, 0 ≤ x ∧ x < 8 → (0 ≤ y ∧ y ≤ 1) → (rdb (1 + 11 + 1 * x.toNat) fun c72 => rdb (V c72 3) fun z73 => rdb (max (cupS (W 1) 8) 1) fun z74 => fct (1 ≤ z74 ∧ z74 ≤ 2147483647) <| calR (f_s_part z73 z74 y) fun z75 => rdb (iL z75) fun z76 => rtn z76) a → (if ¬ cupS (W 1) 8 = 0 then rdb (W 1 ((x + 68).toNat)) fun z269 => calR (f_m_through z269 (cupS (W 1) 8) y) fun z270 => rdb (iL z270) fun z271 => rtn z271 else rtn y) b → a = b := by
    intro r hx8 hy hx hm
    obtain ⟨c, ec, hx⟩ := rdb_g hx
    obtain ⟨z, ez, hx⟩ := rdb_g hx
    obtain ⟨m, em, -, hx⟩ := rdb_g hx
    obtain ⟨p, hp, hx⟩ := hx
    rw [Nat.one_mul] at ec
    have e1 : z = W 1 (68 + x.toNat) := by rw [← ez, ← ec]; exact (hR.2.1 x.toNat (by omega)).2.2.2
    have g1 := hG.1.2 x.toNat (by omega)
    have g2 := hc.2.2 x.toNat (by omega)
    have hx : a = iL p := hx
    by_cases g : ¬ cupS (W 1) 8 = 0
    · rw [if_pos g] at hm
      obtain ⟨w, ew, hm⟩ := rdb_g hm
      obtain ⟨q, hq, hm⟩ := hm
      have hm : b = iL q := hm
      have emm : m = cupS (W 1) 8 := by omega
      rw [show (x + 68).toNat = 68 + x.toNat by omega] at ew
      rw [e1, emm] at hp
      rw [← ew] at hq
      rw [hx, hm, e_part (by omega) (by omega) hp hq]
    · rw [if_neg g] at hm
      have hm : b = y := hm
      have emm : m = ((1 : Nat) : Int) := by omega
      have e0 : z = ((0 : Nat) : Int) := by omega
      rw [e0, emm] at hp
      have hp := q_part (by decide) ⟨by decide, by decide⟩ hp
      rw [hx, hm, hp]
      by_cases gy : ¬ y = 0
      · rw [if_pos gy, show y = 1 by omega]
        decide
      · rw [if_neg gy, show y = 0 by omega]
        decide
  by_cases g1 : ¬ x = (-1)
  · rw [if_pos g1] at hx hm
    obtain ⟨z2, h2, -, hx⟩ := hx
    obtain ⟨y2, k2, -, hm⟩ := hm
    obtain ⟨e2, q2⟩ := hR.person h2 k2
    subst e2
    by_cases g2 : z2 = 0
    · rw [if_pos g2] at hx hm
      have hx : a = -1 := hx
      have hm : b = -1 := hm
      rw [hx, hm]
    rw [if_neg g2] at hx hm
    have q2 := q2.on g2
    obtain ⟨z5, h5, -, hx⟩ := hx
    obtain ⟨y5, k5, -, hm⟩ := hm
    have h5 := q_sWithin h5
    have e5 : z5 = y5 := h5.eq (q_mIn k5) Iff.rfl
    subst e5
    by_cases g5 : ¬ z5 = 0
    · rw [if_pos g5] at hx hm
      have hx := sh_x (F := fun z54 => rdb (1 + 11 + 1 * x.toNat) fun c72 => rdb (V c72 3) fun z73 => rdb (max z54 1) fun z74 => fct (1 ≤ z74 ∧ z74 ≤ 2147483647) <| calR (f_s_part z73 z74 y) fun z75 => rdb (iL z75) fun z76 => rtn z76) hR hG.1 hD rfl hx
      exact sumx (r := 0) ⟨q2.1, q2.2.1⟩ (h5.on g5) hx hm
    · rw [if_neg g5] at hx hm
      have hx : a = -1 := hx
      have hm : b = -1 := hm
      rw [hx, hm]
  · rw [if_neg g1] at hx hm
    by_cases gy : ¬ y = 0
    · rw [if_pos gy] at hx hm
      have hm : b = -1 := hm
      obtain ⟨z2, h2, -, hx⟩ := hx
      have h2 := q_sPerson h2
      have z20 : z2 = 0 := by
        rcases h2 with ⟨-, k⟩ | ⟨k, -⟩
        · omega
        · exact k
      rw [if_pos z20] at hx
      have hx : a = -1 := hx
      rw [hx, hm]
    · rw [if_neg gy] at hx hm
      obtain ⟨z, hz, hx⟩ := hx
      have hx : a = z := hx
      have hm : b = bo (W 1) 8 := hm
      rw [hx, hm, q_theOne hR hz]
