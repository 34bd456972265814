-- answers: spread, the best (own work)
/-- the least over the first l plants; -1 where a dead one is given some -/
def mlx (N T : Nat → Int) (c : Nat → Int) : Nat → Int
  | 0 => 60
  | l + 1 => if av N l = 1 then min (mlx N T c l) (T l) else if ¬ c l = 0 then -1 else mlx N T c l
def lbx (N T : Nat → Int) : Nat → Int
  | 0 => 60
  | l + 1 => if av N l = 1 then min (lbx N T l) (T l) else lbx N T l
theorem mlx_ok {N T c : Nat → Int} : ∀ l : Nat, (∀ q : Nat, q < l → av N q = 0 → c q = 0) → mlx N T c l = lbx N T l := by
  intro l
  induction l with
  | zero => intro _; rfl
  | succ l ih =>
    intro h
    have e1 : mlx N T c (l + 1) = if av N l = 1 then min (mlx N T c l) (T l) else if ¬ c l = 0 then -1 else mlx N T c l := rfl
    have e2 : lbx N T (l + 1) = if av N l = 1 then min (lbx N T l) (T l) else lbx N T l := rfl
    rw [e1, e2, ih (fun q hq => h q (by omega))]
    rcases av_r N l with g | g
    · rw [if_pos g, if_pos g]
    · rw [if_neg (show ¬ av N l = 1 by omega), if_neg (fun hh => hh (h l (by omega) g)), if_neg (show ¬ av N l = 1 by omega)]
theorem mlx_no {N T c : Nat → Int} : ∀ l : Nat, (∀ q : Nat, q < l → av N q = 1 → 0 ≤ T q) → ¬ (∀ q : Nat, q < l → av N q = 0 → c q = 0) → mlx N T c l = -1 := by
  intro l
  induction l with
  | zero => intro _ h; exact absurd (fun q hq => absurd hq (by omega)) h
  | succ l ih =>
    intro hT h
    have e1 : mlx N T c (l + 1) = if av N l = 1 then min (mlx N T c l) (T l) else if ¬ c l = 0 then -1 else mlx N T c l := rfl
    rw [e1]
    rcases av_r N l with g | g
    · rw [if_pos g, ih (fun q hq => hT q (by omega)) (fun hh => h (fun q hq hq2 => by
        by_cases e : q = l
        · rw [e] at hq2; omega
        · exact hh q (by omega) hq2))]
      have := hT l (by omega) g
      omega
    · rw [if_neg (by omega)]
      by_cases g2 : ¬ c l = 0
      · rw [if_pos g2]
      · rw [if_neg g2]
        exact ih (fun q hq => hT q (by omega)) (fun hh => h (fun q hq hq2 => by
          by_cases e : q = l
          · rw [e]; omega
          · exact hh q (by omega) hq2))
theorem q_least1 {m i r : Int} {l : Nat} {V J : Nat → Nat → Int} {R : Nat → Nat → Nat} {N T c : Nat → Int} (hR : RLz 1 V N) (hl : l < 4) (hm : m = mlx N T c l) (hi : i = c l ∧ 0 ≤ i) (hT : T l = V 126 (25 * l + i.toNat)) (h : f_s_least m (l : Int) i V J R r) : r = mlx N T c (l + 1) := by
  unfold f_s_least at h
  obtain ⟨z, hz, -, h⟩ := h
  have ez := av_x hR hl hz
  have e1 : mlx N T c (l + 1) = if av N l = 1 then min (mlx N T c l) (T l) else if ¬ c l = 0 then -1 else mlx N T c l := rfl
  rw [e1, ← hm, ← hi.1]
  rcases av_r N l with g | g
  · rw [if_pos (by omega)] at h
    rw [if_pos g]
    obtain ⟨t, et, h⟩ := rdb_g h
    obtain ⟨s, es, h⟩ := rdb_g h
    have h : r = s := h
    rw [h, ← es, hT, ← et, show (25 * (l : Int) + i).toNat = 25 * l + i.toNat by omega]
  · rw [if_neg (by omega)] at h
    rw [if_neg (by omega)]
    by_cases gi : ¬ i = 0
    · rw [if_pos gi] at h ⊢; exact h
    · rw [if_neg gi] at h ⊢; exact h
def cs4 (c : Nat → Int) : Nat → Int
  | 0 => 0
  | l + 1 => cs4 c l + c l
theorem q_mayBe {x r : Int} {W J : Nat → Nat → Int} {R : Nat → Nat → Nat} {c : Nat → Int} (hc : ∀ l : Nat, l < 4 → W 27 l = c l ∧ 0 ≤ c l ∧ c l ≤ 24) (hs : cs4 c 4 = x) (h : f_m_mayBe x W J R r) : (r = 1 ∧ ∀ q : Nat, q < 4 → av (W 1) q = 0 → c q = 0) ∨ (r = 0 ∧ ¬ ∀ q : Nat, q < 4 → av (W 1) q = 0 → c q = 0) := by
  unfold f_m_mayBe at h
  obtain ⟨b, hb, h9⟩ := lop2_g h
  have key : ∀ (n l : Nat) (s : Int), l ≤ 4 → s = cs4 c l → (0 ≤ s ∧ s ≤ 24 * l) → (∀ q : Nat, q < l → av (W 1) q = 0 → c q = 0) → lop2 n b (l : Int) s r → (r = 1 ∧ ∀ q : Nat, q < 4 → av (W 1) q = 0 → c q = 0) ∨ (r = 0 ∧ ¬ ∀ q : Nat, q < 4 → av (W 1) q = 0 → c q = 0) := by
    intro n
    induction n with
    | zero => intro l s _ _ _ _ h; exact False.elim h
    | succ n ih =>
      intro l s hl es hs2 hq h
      rw [lop2_s hb] at h
      by_cases g : (4 : Int) ≤ l
      · rw [if_pos g] at h
        have el : l = 4 := by omega
        rw [el] at es hq
        rw [if_neg (fun hh => hh (es.trans hs))] at h
        exact Or.inl ⟨h, hq⟩
      · rw [if_neg g] at h
        obtain ⟨y, hy, -, h⟩ := h
        have ey := av_m (by omega) hy
        have hcl := hc l (by omega)
        have ec : cs4 c (l + 1) = cs4 c l + c l := rfl
        have snoc : (av (W 1) l = 0 → c l = 0) → ∀ q : Nat, q < l + 1 → av (W 1) q = 0 → c q = 0 := fun hh q hq1 hq2 => by
          by_cases e : q = l
          · rw [e] at hq2 ⊢; exact hh hq2
          · exact hq q (by omega) hq2
        rcases av_r (W 1) l with g1 | g1
        · rw [if_pos (by omega)] at h
          obtain ⟨_, -, -, h⟩ := rdb_g h
          obtain ⟨_, -, -, h⟩ := rdb_g h
          obtain ⟨t, et, -, h⟩ := rdb_g h
          obtain ⟨w, ew, h⟩ := rdb_g h
          rw [Int.toNat_natCast] at et
          rw [wr_id ⟨by omega, by omega⟩] at ew
          refine ih (l + 1) w (by omega) (by omega) (by omega) (snoc (fun hh => by omega)) (by rw [Int.natCast_add]; exact h)
        · rw [if_neg (by omega)] at h
          obtain ⟨t, et, -, h⟩ := rdb_g h
          rw [Int.toNat_natCast] at et
          by_cases g2 : t ≤ 0
          · rw [if_pos g2] at h
            refine ih (l + 1) (s + t) (by omega) (by omega) (by omega) (snoc (fun hh => by omega)) (by rw [Int.natCast_add]; exact h)
          · rw [if_neg g2] at h
            exact Or.inr ⟨h, fun hh => by have := hh l (by omega) g1; omega⟩
  exact key _ 0 0 (by omega) rfl (by omega) (fun q hq => absurd hq (by omega)) h9
theorem q_leastBy {r : Int} {W J : Nat → Nat → Int} {R : Nat → Nat → Nat} {T : Nat → Int} (hT : ∀ l : Nat, l < 4 → av (W 1) l = 1 → 0 ≤ W 27 l ∧ T l = W 26 (25 * l + (W 27 l).toNat)) (h : f_m_leastBy W J R r) : r = lbx (W 1) T 4 := by
  unfold f_m_leastBy at h
  obtain ⟨b, hb, h9⟩ := lop2_g h
  have key : ∀ (n l : Nat), l ≤ 4 → lop2 n b (l : Int) (lbx (W 1) T l) r → r = lbx (W 1) T 4 := by
    intro n
    induction n with
    | zero => intro l _ h; exact False.elim h
    | succ n ih =>
      intro l hl h
      rw [lop2_s hb] at h
      by_cases g : (4 : Int) ≤ l
      · rw [if_pos g] at h
        have h : r = lbx (W 1) T l := h
        rw [h, show l = 4 by omega]
      · rw [if_neg g] at h
        obtain ⟨y, hy, -, h⟩ := h
        have ey := av_m (by omega) hy
        have h := jnk_d h
        have e2 : lbx (W 1) T (l + 1) = if av (W 1) l = 1 then min (lbx (W 1) T l) (T l) else lbx (W 1) T l := rfl
        have nx : ∀ v : Int, v = lbx (W 1) T (l + 1) → lop2 n b ((l : Int) + 1) v r → r = lbx (W 1) T 4 := fun v ev h => by
          refine ih (l + 1) (by omega) ?_
          rw [← ev, Int.natCast_add]
          exact h
        rcases av_r (W 1) l with g1 | g1
        · rw [if_neg (by omega)] at h
          obtain ⟨_, -, -, h⟩ := rdb_g h
          obtain ⟨_, -, -, h⟩ := rdb_g h
          obtain ⟨t, et, -, h⟩ := rdb_g h
          obtain ⟨s, es, h⟩ := rdb_g h
          obtain ⟨m, hm, h⟩ := h
          have hm := q_min hm
          obtain ⟨t1, t2⟩ := hT l (by omega) g1
          rw [Int.toNat_natCast] at et
          refine nx m ?_ h
          rw [e2, if_pos g1, hm, t2, ← es, et, show (25 * (l : Int) + t).toNat = 25 * l + t.toNat by omega]
        · rw [if_pos (by omega)] at h
          exact nx _ (by rw [e2, if_neg (by omega)]) h
  exact key _ 0 (by omega) h9
