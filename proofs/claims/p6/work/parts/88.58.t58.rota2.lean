-- a rota read: both sides (own work)
theorem q_addR {who n : Int} {V J U : Nat → Nat → Int} {R : Nat → Nat → Nat} (hc : 0 ≤ V 124 1 ∧ V 124 1 + n ≤ 84) (hn : 0 ≤ n) (h : f_s_addR who n V J R U) : U 124 1 = V 124 1 + n ∧ (∀ i : Nat, i ≠ 124 → i ≠ 125 → U i = V i) ∧ ∀ j : Nat, U 125 j = if V 124 1 ≤ j ∧ (j : Int) < V 124 1 + n then who else V 125 j := by
  unfold f_s_addR at h
  obtain ⟨b, hb, h9⟩ := lop2_g h
  have key : ∀ (f : Nat) (z : Int) (W : Nat → Nat → Int), 0 ≤ z ∧ z ≤ n → W 124 1 = V 124 1 + z → (∀ i : Nat, i ≠ 124 → i ≠ 125 → W i = V i) → (∀ j : Nat, W 125 j = if V 124 1 ≤ j ∧ (j : Int) < V 124 1 + z then who else V 125 j) → lop2 f b z W U → U 124 1 = V 124 1 + n ∧ (∀ i : Nat, i ≠ 124 → i ≠ 125 → U i = V i) ∧ ∀ j : Nat, U 125 j = if V 124 1 ≤ j ∧ (j : Int) < V 124 1 + n then who else V 125 j := by
    intro f
    induction f with
    | zero => intro z W _ _ _ _ h; exact False.elim h
    | succ f ih =>
      intro z W hz h1 h2 h3 h
      rw [lop2_s hb] at h
      by_cases g : n ≤ z
      · rw [if_pos g] at h
        have h : U = W := h
        have ez : z = n := by omega
        rw [ez] at h1 h3
        rw [h]
        exact ⟨h1, h2, h3⟩
      · rw [if_neg g] at h
        obtain ⟨c, ec, -, h⟩ := rdb_g h
        rw [if_neg (by omega)] at h
        obtain ⟨W3, e3, h⟩ := rdb_g h
        obtain ⟨W4, e4, h⟩ := rdb_g h
        refine ih (z + 1) W4 (by omega) (by rw [← e4, up2_s]; omega) (fun i i1 i2 => by rw [← e4, up2_c _ _ i1, ← e3, up2_c _ _ i2]; exact h2 i i1 i2) (fun j => ?_) h
        rw [← e4, up2_c _ _ (by decide), ← e3]
        by_cases e : j = c.toNat
        · rw [e, up2_s, if_pos (by omega)]
        · rw [up2_n _ _ (Or.inr e), h3 j]
          by_cases g1 : V 124 1 ≤ j ∧ (j : Int) < V 124 1 + z
          · rw [if_pos g1, if_pos (by omega)]
          · rw [if_neg g1, if_neg (by omega)]
  exact key _ 0 V (by omega) (by omega) (fun _ _ _ => rfl) (fun j => by rw [if_neg (by omega)]) h9
theorem rr_lay {ρ : Type} {G : (Nat → Nat → Int) → ρ → Prop} {r : ρ} {c n who : Int} {f : Nat} {b : (Int → (Nat → Nat → Int) → ρ → Prop) → Int → (Nat → Nat → Int) → ρ → Prop} {W : Nat → Nat → Int} (hc : 0 ≤ c) (hn : 0 ≤ n)
    (hb : b = (fun rc381 (z379 : Int) (V381 : Nat → Nat → Int) => (if n ≤ z379 then G V381 else rdb (up2 V381 30 ((c + z379).toNat) who) fun V391 => rc381 (z379 + 1) V391))) (h : lop2 f b 0 W r) : ∃ W2 : Nat → Nat → Int, (∀ i : Nat, i ≠ 30 → W2 i = W i) ∧ (∀ j : Nat, W2 30 j = if c ≤ j ∧ (j : Int) < c + n then who else W 30 j) ∧ G W2 r := by
  have key : ∀ (f : Nat) (z : Int) (W3 : Nat → Nat → Int), 0 ≤ z ∧ z ≤ n → (∀ i : Nat, i ≠ 30 → W3 i = W i) → (∀ j : Nat, W3 30 j = if c ≤ j ∧ (j : Int) < c + z then who else W 30 j) → lop2 f b z W3 r → ∃ W2 : Nat → Nat → Int, (∀ i : Nat, i ≠ 30 → W2 i = W i) ∧ (∀ j : Nat, W2 30 j = if c ≤ j ∧ (j : Int) < c + n then who else W 30 j) ∧ G W2 r := by
    intro f
    induction f with
    | zero => intro z W3 _ _ _ h; exact False.elim h
    | succ f ih =>
      intro z W3 hz h1 h2 h
      rw [lop2_s hb] at h
      by_cases g : n ≤ z
      · rw [if_pos g] at h
        have ez : z = n := by omega
        rw [ez] at h2
        exact ⟨W3, h1, h2, h⟩
      · rw [if_neg g] at h
        obtain ⟨W4, e4, h⟩ := rdb_g h
        refine ih (z + 1) W4 (by omega) (fun i hi => by rw [← e4, up2_c _ _ hi]; exact h1 i hi) (fun j => ?_) h
        rw [← e4]
        by_cases e : j = (c + z).toNat
        · rw [e, up2_s, if_pos (by omega)]
        · rw [up2_n _ _ (Or.inr e), h2 j]
          by_cases g1 : c ≤ j ∧ (j : Int) < c + z
          · rw [if_pos g1, if_pos (by omega)]
          · rw [if_neg g1, if_neg (by omega)]
  exact key _ 0 W (by omega) (fun _ _ => rfl) (fun j => by rw [if_neg (by omega)]) h
/-- the reference's state: place, days, weeks; the end and the signs stay -/
def RWS (W0 W : Nat → Nat → Int) (pos c w : Int) : Prop := W 0 5 = pos ∧ W 0 46 = c ∧ W 0 47 = w ∧ W 0 6 = W0 0 6 ∧ W 4 = W0 4 ∧ ∀ i : Nat, i ≠ 0 → i ≠ 30 → W i = W0 i
def sgW (W : Nat → Nat → Int) (q : Int) : Int := if W 0 6 ≤ q then -1 else iAnd (W 4 q.toNat) 255
theorem q_hereW {W0 W J : Nat → Nat → Int} {R : Nat → Nat → Nat} {pos c w r : Int} (hs : RWS W0 W pos c w) (h : f_m_here W J R r) : r = sgW W0 pos := by
  have e := q_here h
  obtain ⟨h1, -, -, h4, h5, -⟩ := hs
  rw [e]
  unfold sgnZ sgW
  rw [h1, h4, h5]
set_option maxRecDepth 100000 in
theorem rw_step {m : Nat} {d pos c w f p who n z : Int} {W0 W J X : Nat → Nat → Int} {R : Nat → Nat → Nat} (hs : RWS W0 W pos c w) (hd : 0 ≤ d ∧ d < 7) (hp : 0 ≤ pos ∧ pos ≤ 200) (hc : 0 ≤ c ∧ c ≤ 100) (hw : w < 12 ∨ ¬ (cmr (sgW W0 pos) ∨ (50 ≤ sgW W0 pos ∧ sgW W0 pos ≤ 55))) (hD : DO (W0 1) (sgW W0) w d pos f p who n)
    (h : lop2 (m + 1) (rwB J R) d W (z, X)) : (¬ f = 0 ∧ z = 0 ∧ X = up2 (if p = pos then W else up2 W 0 5 (pos + 1)) 0 7 ((-1000) * f - p)) ∨ (f = 0 ∧ ∃ W2 : Nat → Nat → Int, RWS W0 W2 (p + 1) (c + n) w ∧ (∀ i : Nat, i ≠ 0 → i ≠ 30 → W2 i = W i) ∧ W2 0 4 = W 0 4 ∧ (∀ j : Nat, W2 30 j = if c ≤ j ∧ (j : Int) < c + n then who else W 30 j) ∧ lop2 m (rwB J R) (d + n) W2 (z, X)) := by
  obtain ⟨hn, hD⟩ := hD
  have nr := dnum_r (sgW W0 pos)
  rw [← hn] at nr
  have h : rwB J R (lop2 m (rwB J R)) d W (z, X) := h
  unfold rwB at h
  obtain ⟨t5, e5, -, h⟩ := rdb_g h
  obtain ⟨t46, e46, -, h⟩ := rdb_g h
  obtain ⟨t47, e47, -, h⟩ := rdb_g h
  have hs0 := hs
  obtain ⟨s1, s2, s3, s4, s5, s6⟩ := hs
  rw [s1] at e5
  rw [s2] at e46
  subst e5 e46
  rw [if_neg (by omega)] at h
  obtain ⟨u, hu, -, h⟩ := h
  have eu := q_hereW hs0 hu
  obtain ⟨a, ha, -, h⟩ := h
  have ha := q_isDayAt ha
  rw [eu] at ha h
  by_cases ga : ¬ a = 0
  · rw [if_pos ga] at h
    have qa := ha.on ga
    have hw12 : w < 12 := by
      rcases hw with hw | hw
      · exact hw
      · exact absurd qa hw
    have nf1 : ¬ (n = 1 ∧ ¬ cmr (sgW W0 pos)) := fun hh => by
      rcases qa with q | q
      · exact hh.2 q
      · omega
    obtain ⟨v, hv, -, h⟩ := h
    have hv := q_mIn hv
    obtain ⟨K, hK, h⟩ := jnk_g h
    have hk : K n (z, X) := by
      by_cases gv : v = 0
      · rw [if_pos gv] at h
        have nv := hv.off gv
        have e : n = 1 := by omega
        rw [e]; exact h
      · rw [if_neg gv] at h
        have qv := hv.on gv
        have e : n = sgW W0 pos - 48 := by omega
        rw [e]; exact h
    rw [hK] at hk
    by_cases g7 : d + n ≤ 7
    · have hk := hk
      rw [if_pos g7] at hk
      have hD2 := hD.resolve_left (fun q => nf1 ⟨q.2.2.1, q.2.2.2⟩)
      have hD3 := hD2.resolve_left (fun q => q.2.2.2 hw12)
      obtain ⟨pp, -, -, -, hE⟩ := hD3.resolve_left (fun q => by omega)
      -- the sign that says who
      have lay : ∀ (k : Int) (Wb : Nat → Nat → Int) (who2 : Int) (ff : Nat) (b : (Int → (Nat → Nat → Int) → (Int × (Nat → Nat → Int)) → Prop) → Int → (Nat → Nat → Int) → (Int × (Nat → Nat → Int)) → Prop), who2 = who → f = 0 → pos + k = p + 1 → (∀ i : Nat, i ≠ 0 → Wb i = W i) → (∀ q : Nat, q ≠ 5 → Wb 0 q = W 0 q) →
          b = (fun rc381 (z379 : Int) (V381 : Nat → Nat → Int) => (if n ≤ z379 then rdb (up2 V381 0 46 (c + n)) fun V389 => rdb (up2 V389 0 5 (pos + k)) fun V390 => lop2 m (rwB J R) (d + n) V390 else rdb (up2 V381 30 ((c + z379).toNat) who2) fun V391 => rc381 (z379 + 1) V391)) → lop2 ff b 0 Wb (z, X) → (¬ f = 0 ∧ z = 0 ∧ X = up2 (if p = pos then W else up2 W 0 5 (pos + 1)) 0 7 ((-1000) * f - p)) ∨ (f = 0 ∧ ∃ W2 : Nat → Nat → Int, RWS W0 W2 (p + 1) (c + n) w ∧ (∀ i : Nat, i ≠ 0 → i ≠ 30 → W2 i = W i) ∧ W2 0 4 = W 0 4 ∧ (∀ j : Nat, W2 30 j = if c ≤ j ∧ (j : Int) < c + n then who else W 30 j) ∧ lop2 m (rwB J R) (d + n) W2 (z, X)) := by
        intro k Wb who2 ff b ewho ef ek hb1 hb2 hb h
        obtain ⟨W3, l1, l2, h⟩ := rr_lay hc.1 (by omega) (G := fun V381 => rdb (up2 V381 0 46 (c + n)) fun V389 => rdb (up2 V389 0 5 (pos + k)) fun V390 => lop2 m (rwB J R) (d + n) V390) hb h
        obtain ⟨W4, e4, h⟩ := rdb_g h
        obtain ⟨W5, e5, h⟩ := rdb_g h
        have o5 : ∀ i : Nat, i ≠ 0 → W5 i = W3 i := fun i hi => by rw [← e5, up2_c _ _ hi, ← e4, up2_c _ _ hi]
        have r5 : W5 0 = up1 (up1 (Wb 0) 46 (c + n)) 5 (pos + k) := by rw [← e5, up2_row, ← e4, up2_row, l1 0 (by decide)]
        have f5 : ∀ q : Nat, q ≠ 5 → q ≠ 46 → W5 0 q = W 0 q := fun q q1 q2 => by rw [r5, up1_of q1, up1_of q2]; exact hb2 q q1
        refine Or.inr ⟨ef, W5, ⟨by rw [r5, up1_at]; exact ek, by rw [r5, up1_of (by decide), up1_at], by rw [f5 47 (by decide) (by decide)]; exact s3, by rw [f5 6 (by decide) (by decide)]; exact s4, by rw [o5 4 (by decide), l1 4 (by decide), hb1 4 (by decide)]; exact s5, fun i i1 i2 => by rw [o5 i i1, l1 i i2, hb1 i i1]; exact s6 i i1 i2⟩, fun i i1 i2 => by rw [o5 i i1, l1 i i2, hb1 i i1], f5 4 (by decide) (by decide), fun j => ?_, h⟩
        rw [o5 30 (by decide), l2 j, ewho, hb1 30 (by decide)]
      by_cases gn : n ≤ 1
      · rw [if_pos gn] at hk
        have ep : p = pos := by omega
        rw [ep] at hE
        obtain ⟨u2, hu2, -, hk⟩ := hk
        have eu2 := q_hereW hs0 hu2
        rw [eu2] at hk
        by_cases g46 : sgW W0 pos = 46
        · rw [if_pos g46] at hk
          rcases hE with ⟨-, hE⟩ | ⟨-, -, hE, -⟩ | ⟨e1, -, e2 | e2⟩
          · exact absurd (Or.inl g46) hE
          · exact absurd g46 hE
          · exact lay 1 W (-1) _ _ e2.2.symm e1 (by omega) (fun _ _ => rfl) (fun _ _ => rfl) rfl hk
          · exact absurd g46 e2.1
        · rw [if_neg g46] at hk
          obtain ⟨v2, hv2, -, hk⟩ := hk
          have hv2 := q_mIn hv2
          by_cases gv2 : ¬ v2 = 0
          · rw [if_pos gv2] at hk
            have qv2 := hv2.on gv2
            obtain ⟨y, hy, -, hk⟩ := hk
            have hy := q_mPerson hy
            rw [s6 1 (by decide) (by decide)] at hy
            by_cases gy : ¬ y = 0
            · rw [if_pos gy] at hk
              have qy := hy.on gy
              rcases hE with ⟨-, hE⟩ | ⟨-, -, -, hE⟩ | ⟨e1, -, e2 | e2⟩
              · exact absurd (Or.inr qv2) hE
              · exact absurd qy.2.2 hE
              · exact absurd e2.1 g46
              · exact lay 1 W (sgW W0 pos - 97) _ _ e2.2.2.symm e1 (by omega) (fun _ _ => rfl) (fun _ _ => rfl) rfl hk
            · rw [if_neg gy] at hk
              have ny := hy.off (by omega)
              have e7 : f = 7 := by
                rcases hE with ⟨-, hE⟩ | ⟨e1, -⟩ | ⟨e1, -, e2 | e2⟩
                · exact absurd (Or.inr qv2) hE
                · exact e1
                · exact absurd e2.1 g46
                · exact absurd ⟨by omega, by omega, e2.2.1⟩ ny
              obtain ⟨t, T, hT, -, -, hk⟩ := hk
              obtain ⟨t0, t1⟩ := q_wrong hT (by decide) (by omega)
              simp only [rtn, Prod.mk.injEq] at hk
              exact Or.inl ⟨by omega, by rw [hk.1, t0], by rw [hk.2, t1, if_pos ep, e7, ep]⟩
          · rw [if_neg gv2] at hk
            have nv2 := hv2.off (by omega)
            have e1 : f = 1 := by
              rcases hE with ⟨e1, -⟩ | ⟨-, hE, hE2, -⟩ | ⟨-, hE, -⟩
              · exact e1
              · rcases hE with hE | hE
                · exact absurd hE g46
                · exact absurd hE nv2
              · rcases hE with hE | hE
                · exact absurd hE g46
                · exact absurd hE nv2
            obtain ⟨t, T, hT, -, -, hk⟩ := hk
            obtain ⟨t0, t1⟩ := q_wrong hT (by decide) (by omega)
            simp only [rtn, Prod.mk.injEq] at hk
            exact Or.inl ⟨by omega, by rw [hk.1, t0], by rw [hk.2, t1, if_pos ep, e1, ep]⟩
      · rw [if_neg gn] at hk
        have ep : p = pos + 1 := by omega
        have epn : ¬ p = pos := by omega
        rw [ep] at hE
        obtain ⟨Wb, eb, hk⟩ := rdb_g hk
        have hb1 : ∀ i : Nat, i ≠ 0 → Wb i = W i := fun i hi => by rw [← eb, up2_c _ _ hi]
        have hb2 : ∀ q : Nat, q ≠ 5 → Wb 0 q = W 0 q := fun q hq => by rw [← eb, up2_n _ _ (Or.inr hq)]
        have hsb : RWS W0 Wb (pos + 1) c w := ⟨by rw [← eb, up2_s], by rw [hb2 46 (by decide)]; exact s2, by rw [hb2 47 (by decide)]; exact s3, by rw [hb2 6 (by decide)]; exact s4, by rw [hb1 4 (by decide)]; exact s5, fun i i1 i2 => by rw [hb1 i i1]; exact s6 i i1 i2⟩
        obtain ⟨u2, hu2, -, hk⟩ := hk
        have eu2 := q_hereW hsb hu2
        rw [eu2] at hk
        by_cases g46 : sgW W0 (pos + 1) = 46
        · rw [if_pos g46] at hk
          rcases hE with ⟨-, hE⟩ | ⟨-, -, hE, -⟩ | ⟨e1, -, e2 | e2⟩
          · exact absurd (Or.inl g46) hE
          · exact absurd g46 hE
          · exact lay 2 Wb (-1) _ _ e2.2.symm e1 (by omega) hb1 hb2 rfl hk
          · exact absurd g46 e2.1
        · rw [if_neg g46] at hk
          obtain ⟨v2, hv2, -, hk⟩ := hk
          have hv2 := q_mIn hv2
          by_cases gv2 : ¬ v2 = 0
          · rw [if_pos gv2] at hk
            have qv2 := hv2.on gv2
            obtain ⟨y, hy, -, hk⟩ := hk
            have hy := q_mPerson hy
            rw [hsb.2.2.2.2.2 1 (by decide) (by decide)] at hy
            by_cases gy : ¬ y = 0
            · rw [if_pos gy] at hk
              have qy := hy.on gy
              rcases hE with ⟨-, hE⟩ | ⟨-, -, -, hE⟩ | ⟨e1, -, e2 | e2⟩
              · exact absurd (Or.inr qv2) hE
              · exact absurd qy.2.2 hE
              · exact absurd e2.1 g46
              · exact lay 2 Wb (sgW W0 (pos + 1) - 97) _ _ e2.2.2.symm e1 (by omega) hb1 hb2 rfl hk
            · rw [if_neg gy] at hk
              have ny := hy.off (by omega)
              have e7 : f = 7 := by
                rcases hE with ⟨-, hE⟩ | ⟨e1, -⟩ | ⟨e1, -, e2 | e2⟩
                · exact absurd (Or.inr qv2) hE
                · exact e1
                · exact absurd e2.1 g46
                · exact absurd ⟨by omega, by omega, e2.2.1⟩ ny
              obtain ⟨t, T, hT, -, -, hk⟩ := hk
              obtain ⟨t0, t1⟩ := q_wrong hT (by decide) (by omega)
              simp only [rtn, Prod.mk.injEq] at hk
              exact Or.inl ⟨by omega, by rw [hk.1, t0], by rw [hk.2, t1, if_neg epn, e7, ep, eb]⟩
          · rw [if_neg gv2] at hk
            have nv2 := hv2.off (by omega)
            have e1 : f = 1 := by
              rcases hE with ⟨e1, -⟩ | ⟨-, hE, hE2, -⟩ | ⟨-, hE, -⟩
              · exact e1
              · rcases hE with hE | hE
                · exact absurd hE g46
                · exact absurd hE nv2
              · rcases hE with hE | hE
                · exact absurd hE g46
                · exact absurd hE nv2
            obtain ⟨t, T, hT, -, -, hk⟩ := hk
            obtain ⟨t0, t1⟩ := q_wrong hT (by decide) (by omega)
            simp only [rtn, Prod.mk.injEq] at hk
            exact Or.inl ⟨by omega, by rw [hk.1, t0], by rw [hk.2, t1, if_neg epn, e1, ep, eb]⟩
    · have hk := hk
      rw [if_neg g7] at hk
      have hD2 := hD.resolve_left (fun q => nf1 ⟨q.2.2.1, q.2.2.2⟩)
      have hD3 := hD2.resolve_left (fun q => q.2.2.2 hw12)
      have e6 : f = 6 ∧ p = pos := by
        rcases hD3 with ⟨a, b, -⟩ | ⟨-, -, -, a, -⟩
        · exact ⟨a, b⟩
        · exact absurd a g7
      obtain ⟨t, T, hT, -, -, hk⟩ := hk
      obtain ⟨t0, t1⟩ := q_wrong hT (by decide) (by omega)
      simp only [rtn, Prod.mk.injEq] at hk
      exact Or.inl ⟨by omega, by rw [hk.1, t0], by rw [hk.2, t1, if_pos e6.2, e6.1, e6.2]⟩
  · rw [if_neg ga] at h
    have na := ha.off (by omega)
    have nc : ¬ cmr (sgW W0 pos) := fun hh => na (Or.inl hh)
    have n1 : n = 1 := by
      rcases nr with q | q
      · exact q.1
      · exact absurd (Or.inr ⟨q.1, q.2.1⟩) na
    have e1 : f = 1 ∧ p = pos := by
      rcases hD with ⟨a, b, -⟩ | ⟨-, -, a, -⟩ | ⟨-, -, a, -⟩ | ⟨-, a, -⟩
      · exact ⟨a, b⟩
      · exact absurd ⟨n1, nc⟩ a
      · exact absurd ⟨n1, nc⟩ a
      · exact absurd ⟨n1, nc⟩ a
    obtain ⟨t, T, hT, -, -, h⟩ := h
    obtain ⟨t0, t1⟩ := q_wrong hT (by decide) (by omega)
    simp only [rtn, Prod.mk.injEq] at h
    exact Or.inl ⟨by omega, by rw [h.1, t0], by rw [h.2, t1, if_pos e1.2, e1.1, e1.2]⟩
