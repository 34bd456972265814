-- what is felt: letters and facts (own work)
theorem q_putA {c v : Int} {k : Nat} {V J U : Nat → Nat → Int} {R : Nat → Nat → Nat} (h : f_s_putA c v V J R U) (hc : 97 ≤ c ∧ c ≤ 122) (hk : (c - 97).toNat = k) : U = up2 V 70 k v := by
  simp only [f_s_putA, rdb] at h
  rw [if_neg (by omega), if_neg (by omega), hk] at h
  exact h
def agX (c : Nat → Int) (d : Int) : Int := if c 6 = 0 then 99 else if c 7 = -1 then 99 else wr (d - c 7)
/-- letters that are laid, one behind another -/
def ly (f : Nat → Int) (k : Nat) (v : Int) : Nat → Int := up1 f k v
theorem up2_row {V : Nat → Nat → Int} {i k : Nat} {v : Int} : up2 V i k v i = up1 (V i) k v := by simp [up2]
def dyX (f : Nat → Int) (d n : Int) : Nat → Int := up1 (up1 (up1 f 3 d) 22 (iRem d 7)) 13 n
def ofX (f : Nat → Int) (l : Int) (c k : Nat → Int) (d : Int) : Nat → Int := up1 (up1 (up1 (up1 (up1 (up1 (up1 f 11 l) 14 (c 1)) 5 (c 2)) 18 (k 6)) 24 (c 4)) 25 (c 5)) 0 (agX c d)
def byX (f : Nat → Int) (p t q : Int) : Nat → Int := up1 (up1 (up1 f 15 p) 19 t) 16 q
theorem q_onDay {d n : Int} {V J U : Nat → Nat → Int} {R : Nat → Nat → Nat} (h : f_s_onDay d n V J R U) : U 70 = dyX (V 70) d n ∧ ∀ i : Nat, i ≠ 70 → U i = V i := by
  simp only [f_s_onDay, rdb, fct, calUX, rtn] at h
  obtain ⟨V1, h1, -, -, V2, h2, -, V3, h3, -, h4⟩ := h
  have e1 := q_putA h1 (by decide) (k := 3) (by decide)
  have e2 := q_putA h2 (by decide) (k := 22) (by decide)
  have e3 := q_putA h3 (by decide) (k := 13) (by decide)
  subst e1 e2 e3 h4
  exact ⟨by rw [up2_row, up2_row, up2_row]; rfl, fun i hi => by rw [up2_c _ _ hi, up2_c _ _ hi, up2_c _ _ hi]⟩
theorem q_by {p t q : Int} {V J U : Nat → Nat → Int} {R : Nat → Nat → Nat} (h : f_s_by p t q V J R U) : U 70 = byX (V 70) p t q ∧ ∀ i : Nat, i ≠ 70 → U i = V i := by
  simp only [f_s_by, rdb, fct, calUX, rtn] at h
  obtain ⟨V1, h1, -, V2, h2, -, V3, h3, -, h4⟩ := h
  have e1 := q_putA h1 (by decide) (k := 15) (by decide)
  have e2 := q_putA h2 (by decide) (k := 19) (by decide)
  have e3 := q_putA h3 (by decide) (k := 16) (by decide)
  subst e1 e2 e3 h4
  exact ⟨by rw [up2_row, up2_row, up2_row]; rfl, fun i hi => by rw [up2_c _ _ hi, up2_c _ _ hi, up2_c _ _ hi]⟩
theorem q_byNobody {V J U : Nat → Nat → Int} {R : Nat → Nat → Nat} (h : f_s_byNobody V J R U) : U 70 = byX (V 70) 0 0 0 ∧ ∀ i : Nat, i ≠ 70 → U i = V i := by
  simp only [f_s_byNobody, calUX, rtn] at h
  obtain ⟨V1, h1, -, rfl⟩ := h
  exact q_by h1
theorem q_of {c : Nat} {l d : Int} {V J U : Nat → Nat → Int} {R : Nat → Nat → Nat} (h : f_s_of c l d V J R U) (hc : c ≠ 70 ∧ c + 1 ≠ 70) : U 70 = ofX (V 70) l (V c) (V (c + 1)) d ∧ ∀ i : Nat, i ≠ 70 → U i = V i := by
  simp only [f_s_of, rdb, jnk] at h
  obtain ⟨V1, h1, -, V3, h3, -, V5, h5, -, V7, h7, -, V9, h9, -, V11, h11, -, -, h⟩ := h
  have e1 := q_putA h1 (by decide) (k := 11) (by decide)
  have e3 := q_putA h3 (by decide) (k := 14) (by decide)
  have e5 := q_putA h5 (by decide) (k := 5) (by decide)
  have e7 := q_putA h7 (by decide) (k := 18) (by decide)
  have e9 := q_putA h9 (by decide) (k := 24) (by decide)
  have e11 := q_putA h11 (by decide) (k := 25) (by decide)
  have hl : ∃ Y : Nat → Nat → Int, f_s_putA 97 (agX (V11 c) d) V11 J R Y ∧ U = Y := by
    unfold agX
    by_cases g1 : V11 c 6 = 0
    · rw [if_pos g1] at h ⊢
      obtain ⟨Y, hy, -, hr⟩ := h
      exact ⟨Y, hy, hr⟩
    · rw [if_neg g1] at h ⊢
      by_cases g2 : V11 c 7 = -1
      · rw [if_pos g2] at h ⊢
        obtain ⟨Y, hy, -, hr⟩ := h
        exact ⟨Y, hy, hr⟩
      · rw [if_neg g2] at h ⊢
        obtain ⟨Y, hy, -, hr⟩ := h
        exact ⟨Y, hy, hr⟩
  obtain ⟨Y, hy, rfl⟩ := hl
  have e12 := q_putA hy (by decide) (k := 0) (by decide)
  have r1 : V1 c = V c := by rw [e1, up2_c _ _ hc.1]
  have r3 : V3 c = V c := by rw [e3, up2_c _ _ hc.1, r1]
  have r5 : V5 (c + 1) = V (c + 1) := by rw [e5, up2_c _ _ hc.2, e3, up2_c _ _ hc.2, e1, up2_c _ _ hc.2]
  have r5c : V5 c = V c := by rw [e5, up2_c _ _ hc.1, r3]
  have r7 : V7 c = V c := by rw [e7, up2_c _ _ hc.1, r5c]
  have r9 : V9 c = V c := by rw [e9, up2_c _ _ hc.1, r7]
  have r11 : V11 c = V c := by rw [e11, up2_c _ _ hc.1, r9]
  rw [r1] at e3
  rw [r3] at e5
  rw [r5] at e7
  rw [r7] at e9
  rw [r9] at e11
  rw [r11] at e12
  subst e12 e11 e9 e7 e5 e3 e1
  exact ⟨by rw [up2_row, up2_row, up2_row, up2_row, up2_row, up2_row, up2_row]; rfl, fun i hi => by rw [up2_c _ _ hi, up2_c _ _ hi, up2_c _ _ hi, up2_c _ _ hi, up2_c _ _ hi, up2_c _ _ hi, up2_c _ _ hi]⟩
theorem q_feels {V J U : Nat → Nat → Int} {R : Nat → Nat → Nat} (h : f_m_feels V J R U) : (∀ i : Nat, i ≠ 18 → U i = V i) ∧ U 18 0 = V 1 79 ∧ U 18 1 = iRem (V 1 79) 7 ∧ U 18 10 = cnt (V 1 78) ∧ ∀ k : Nat, 2 ≤ k → k < 13 → k ≠ 10 → U 18 k = 0 := by
  unfold f_m_feels at h
  obtain ⟨b, hb, h⟩ := lop2_g h
  have key : ∀ (n z : Nat) (W : Nat → Nat → Int), (∀ i : Nat, i ≠ 18 → W i = V i) → (∀ k : Nat, k < z → k < 13 → W 18 k = 0) → lop2 n b (z : Int) W U → (∀ i : Nat, i ≠ 18 → U i = V i) ∧ U 18 0 = V 1 79 ∧ U 18 1 = iRem (V 1 79) 7 ∧ U 18 10 = cnt (V 1 78) ∧ ∀ k : Nat, 2 ≤ k → k < 13 → k ≠ 10 → U 18 k = 0 := by
    intro n
    induction n with
    | zero => intro z W _ _ h; exact False.elim h
    | succ n ih =>
      intro z W hW hz h
      rw [lop2_s hb] at h
      by_cases g : (13 : Int) ≤ z
      · rw [if_pos g] at h
        simp only [rdb, fct, calR, rtn] at h
        obtain ⟨-, y, hy, h⟩ := h
        have hy := q_bits hy
        rw [up2_n _ _ (Or.inl (by decide)), up2_n _ _ (Or.inl (by decide)), hW 1 (by decide)] at hy
        rw [hW 1 (by decide)] at h
        subst h
        refine ⟨fun i hi => ?_, ?_, ?_, ?_, fun k k1 k2 k3 => ?_⟩
        · rw [up2_c _ _ hi, up2_c _ _ hi, up2_c _ _ hi]; exact hW i hi
        · rw [up2_n _ _ (Or.inr (by decide)), up2_n _ _ (Or.inr (by decide)), up2_s]
        · rw [up2_n _ _ (Or.inr (by decide)), up2_s]
        · rw [up2_s]; exact hy
        · rw [up2_n _ _ (Or.inr k3), up2_n _ _ (Or.inr (by omega)), up2_n _ _ (Or.inr (by omega))]
          exact hz k (by omega) k2
      · rw [if_neg g] at h
        simp only [rdb] at h
        refine ih (z + 1) _ (fun i hi => ?_) (fun k k1 k2 => ?_) (by rw [Int.natCast_add]; exact h)
        · rw [up2_c _ _ hi]; exact hW i hi
        · rw [Int.toNat_natCast]
          by_cases e : k = z
          · subst e; rw [up2_s]
          · rw [up2_n _ _ (Or.inr e)]; exact hz k (by omega) k2
  exact key 15 0 V (fun _ _ => rfl) (fun k hk => by omega) h
def agM (v d : Int) : Int := if 0 ≤ v then wr (d - v) else 99
theorem q_feelsPlant {l : Int} {V J U : Nat → Nat → Int} {R : Nat → Nat → Nat} (h : f_m_feelsPlant l V J R U) (hl : 0 ≤ l ∧ l < 4) : (∀ i : Nat, i ≠ 18 → U i = V i) ∧ (U 18 0 = V 1 79 ∧ U 18 1 = iRem (V 1 79) 7 ∧ U 18 10 = cnt (V 1 78)) ∧ (U 18 2 = l ∧ U 18 3 = V 1 l.toNat ∧ U 18 4 = V 1 (4 + l.toNat) ∧ U 18 5 = V 1 (30 + 7 * l.toNat) ∧ U 18 6 = V 1 (12 + l.toNat) ∧ U 18 7 = V 1 (16 + l.toNat) ∧ U 18 11 = agM (V 1 (20 + l.toNat)) (V 1 79)) ∧ (U 18 8 = 0 ∧ U 18 9 = 0 ∧ U 18 12 = 0) := by
  simp only [f_m_feelsPlant, rdb] at h
  obtain ⟨V1, h1, -, -, -, -, -, h⟩ := h
  obtain ⟨f1, f2, f3, f4, f5⟩ := q_feels h1
  have e0 : V1 1 = V 1 := f1 1 (by decide)
  have c1 : (1 : Nat) ≠ 18 := by decide
  simp only [up2_c _ _ c1, e0] at h
  rw [show (l + 4).toNat = 4 + l.toNat by omega, show (7 * l + 30).toNat = 30 + 7 * l.toNat by omega, show (l + 12).toNat = 12 + l.toNat by omega, show (l + 16).toNat = 16 + l.toNat by omega, show (l + 20).toNat = 20 + l.toNat by omega] at h
  have hU : U = up2 (up2 (up2 (up2 (up2 (up2 (up2 V1 18 2 l) 18 3 (V 1 l.toNat)) 18 4 (V 1 (4 + l.toNat))) 18 5 (V 1 (30 + 7 * l.toNat))) 18 6 (V 1 (12 + l.toNat))) 18 7 (V 1 (16 + l.toNat))) 18 11 (agM (V 1 (20 + l.toNat)) (V 1 79)) := by
    unfold agM
    by_cases g : 0 ≤ V 1 (20 + l.toNat)
    · rw [if_pos g] at h ⊢; exact h
    · rw [if_neg g] at h ⊢; exact h
  subst hU
  refine ⟨fun i hi => ?_, ⟨?_, ?_, ?_⟩, ⟨?_, ?_, ?_, ?_, ?_, ?_, ?_⟩, ?_, ?_, ?_⟩
  · rw [up2_c _ _ hi, up2_c _ _ hi, up2_c _ _ hi, up2_c _ _ hi, up2_c _ _ hi, up2_c _ _ hi, up2_c _ _ hi]; exact f1 i hi
  · rw [up2_n _ _ (Or.inr (by decide)), up2_n _ _ (Or.inr (by decide)), up2_n _ _ (Or.inr (by decide)), up2_n _ _ (Or.inr (by decide)), up2_n _ _ (Or.inr (by decide)), up2_n _ _ (Or.inr (by decide)), up2_n _ _ (Or.inr (by decide))]; exact f2
  · rw [up2_n _ _ (Or.inr (by decide)), up2_n _ _ (Or.inr (by decide)), up2_n _ _ (Or.inr (by decide)), up2_n _ _ (Or.inr (by decide)), up2_n _ _ (Or.inr (by decide)), up2_n _ _ (Or.inr (by decide)), up2_n _ _ (Or.inr (by decide))]; exact f3
  · rw [up2_n _ _ (Or.inr (by decide)), up2_n _ _ (Or.inr (by decide)), up2_n _ _ (Or.inr (by decide)), up2_n _ _ (Or.inr (by decide)), up2_n _ _ (Or.inr (by decide)), up2_n _ _ (Or.inr (by decide)), up2_n _ _ (Or.inr (by decide))]; exact f4
  · rw [up2_n _ _ (Or.inr (by decide)), up2_n _ _ (Or.inr (by decide)), up2_n _ _ (Or.inr (by decide)), up2_n _ _ (Or.inr (by decide)), up2_n _ _ (Or.inr (by decide)), up2_n _ _ (Or.inr (by decide)), up2_s]
  · rw [up2_n _ _ (Or.inr (by decide)), up2_n _ _ (Or.inr (by decide)), up2_n _ _ (Or.inr (by decide)), up2_n _ _ (Or.inr (by decide)), up2_n _ _ (Or.inr (by decide)), up2_s]
  · rw [up2_n _ _ (Or.inr (by decide)), up2_n _ _ (Or.inr (by decide)), up2_n _ _ (Or.inr (by decide)), up2_n _ _ (Or.inr (by decide)), up2_s]
  · rw [up2_n _ _ (Or.inr (by decide)), up2_n _ _ (Or.inr (by decide)), up2_n _ _ (Or.inr (by decide)), up2_s]
  · rw [up2_n _ _ (Or.inr (by decide)), up2_n _ _ (Or.inr (by decide)), up2_s]
  · rw [up2_n _ _ (Or.inr (by decide)), up2_s]
  · rw [up2_s]
  all_goals (rw [up2_n _ _ (Or.inr (by decide)), up2_n _ _ (Or.inr (by decide)), up2_n _ _ (Or.inr (by decide)), up2_n _ _ (Or.inr (by decide)), up2_n _ _ (Or.inr (by decide)), up2_n _ _ (Or.inr (by decide)), up2_n _ _ (Or.inr (by decide))]; exact f5 _ (by decide) (by decide) (by decide))
