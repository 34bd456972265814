-- answers: keep, share (own work)
theorem e_keep {a b : Int} {V V2 J W Jm X : Nat → Nat → Int} {R Rm : Nat → Nat → Nat} (h : WR R V W) (hG : GW W) (hx : f_s_keep V J R (a, V2)) (hm : f_m_keep W Jm Rm (b, X)) : a = b := by
  obtain ⟨-, -, -, vo, -, bX, hbX, hx9⟩ := w_keep h hx hm
  unfold f_m_keep at hm
  obtain ⟨W1, f1, hm⟩ := rdb_g hm
  obtain ⟨W2, f2, hm⟩ := rdb_g hm
  obtain ⟨bM, hbM, hm9⟩ := lop2_g hm
  have w2 : W2 1 = W 1 := by rw [← f2, cpN_n (by decide), ← f1, up2_c _ _ (by decide)]
  have key : ∀ (n m l : Nat) (acc : Int), l ≤ 4 → lop2 n bX (l : Int) acc (a, V2) → lop2 m bM (l : Int) acc (b, X) → a = b := by
    intro n
    induction n with
    | zero => intro m l acc _ hx; exact False.elim hx
    | succ n ih =>
      intro m l acc hl hx hm
      cases m with
      | zero => exact False.elim hm
      | succ m =>
        rw [lop2_s hbX] at hx
        rw [lop2_s hbM] at hm
        by_cases g : (4 : Int) ≤ l
        · rw [if_pos g] at hx hm
          simp only [rtn, Prod.mk.injEq] at hx hm
          rw [hx.1, hm.1]
        · rw [if_neg g] at hx hm
          obtain ⟨c, ec, hx⟩ := rdb_g hx
          obtain ⟨z, ez, hx⟩ := rdb_g hx
          obtain ⟨w, ew, hx⟩ := rdb_g hx
          rw [Int.toNat_natCast] at ec
          have hP := h.1.1.1 l (by omega)
          have e2 : z = W 1 (4 + l) := by
            rw [← ez, ← ec, vo _ (by omega) (by omega)]
            exact hP.2.2.1
          obtain ⟨y, hy, -, hm⟩ := hm
          have hy := q_mPlant hy
          rw [w2] at hy
          have hm := jnk_d hm
          by_cases gy : y = 0
          · rw [if_pos gy] at hm
            obtain ⟨v, ev, hm⟩ := rdb_g hm
            have hb : bt (W 1 76) l = 0 := by
              have r := bt_r (W 1 76) l
              have n := hy.off gy
              omega
            have e0 := hG.1.1 l (by omega) hb
            have e : w = v := by rw [← ew, ← ev, e2, e0]
            subst e
            exact ih m (l + 1) w (by omega) (by rw [Int.natCast_add]; exact hx) (by rw [Int.natCast_add]; exact hm)
          · rw [if_neg gy] at hm
            obtain ⟨t, et, -, hm⟩ := rdb_g hm
            obtain ⟨v, ev, hm⟩ := rdb_g hm
            rw [show ((l : Int) + 4).toNat = 4 + l by omega, w2] at et
            have e : w = v := by rw [← ew, ← ev, e2, et]
            subst e
            exact ih m (l + 1) w (by omega) (by rw [Int.natCast_add]; exact hx) (by rw [Int.natCast_add]; exact hm)
  exact key _ _ 0 0 (by omega) hx9 hm9
/-- cups of the first p people -/
def cupS (N : Nat → Int) : Nat → Int
  | 0 => 0
  | p + 1 => cupS N p + N (68 + p)
theorem cupS_b {N : Nat → Int} (hG : GI N) (hD : 0 ≤ N 79 ∧ N 79 ≤ 9999) : ∀ p : Nat, p ≤ 8 → 0 ≤ cupS N p ∧ cupS N p ≤ 40000000 * p ∧ ∀ q : Nat, q < p → N (68 + q) ≤ cupS N p := by
  intro p
  induction p with
  | zero => intro _; exact ⟨by simp [cupS], by simp [cupS], fun q hq => by omega⟩
  | succ p ih =>
    intro hp
    obtain ⟨i1, i2, i3⟩ := ih (by omega)
    have k := hG.2 p (by omega)
    have k2 : N (68 + p) ≤ 3996 * N 79 + 0 := k.2.2
    have e : cupS N (p + 1) = cupS N p + N (68 + p) := rfl
    refine ⟨by omega, by omega, fun q hq => ?_⟩
    by_cases eq : q = p
    · rw [eq]; omega
    · have := i3 q (by omega)
      omega
theorem q_iL {z : Int} (h : 0 ≤ z ∧ z ≤ 2147483647) : iL z = z := by
  have e : ∀ y : Int, iL y = wr y := fun y => by
    unfold iL wr
    rw [Int64.toInt32_ofInt]
  rw [e]
  exact wr_id ⟨by omega, by omega⟩
