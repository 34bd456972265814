-- reading: sums, on both sides (own work)
/-- a sum's steps from f to t: the stack's height ahead of each, k at most -/
def SG (s : Nat → Int) (f t k : Int) : Prop := 0 ≤ f ∧ f < t ∧ 1 ≤ k ∧ ∃ τ : Int → Int, τ f = 0 ∧ τ t = 1 ∧ ∀ z : Int, f ≤ z → z < t → ((s z.toNat % 16 = 0 ∨ s z.toNat % 16 = 1) ∧ 0 ≤ τ z ∧ τ z + 1 ≤ k ∧ τ (z + 1) = τ z + 1) ∨ (2 ≤ s z.toNat % 16 ∧ s z.toNat % 16 ≤ 6 ∧ 2 ≤ τ z ∧ τ z ≤ k ∧ τ (z + 1) = τ z - 1)
theorem SG.cg {s u : Nat → Int} {f t k : Int} (h : SG s f t k) (e : ∀ j : Nat, f ≤ j → (j : Int) < t → u j = s j) : SG u f t k := by
  obtain ⟨h1, h2, h3, τ, h4, h5, h6⟩ := h
  refine ⟨h1, h2, h3, τ, h4, h5, fun z a b => ?_⟩
  rw [e z.toNat (by omega) (by omega)]
  exact h6 z a b
theorem SG.up {s : Nat → Int} {f t k l : Int} (h : SG s f t k) (e : k ≤ l) : SG s f t l := by
  obtain ⟨h1, h2, h3, τ, h4, h5, h6⟩ := h
  refine ⟨h1, h2, by omega, τ, h4, h5, fun z a b => ?_⟩
  have := h6 z a b
  omega
theorem SG.one {s : Nat → Int} {f k : Int} (h0 : 0 ≤ f) (hk : 1 ≤ k) (h : s f.toNat % 16 = 0 ∨ s f.toNat % 16 = 1) : SG s f (f + 1) k :=
  ⟨h0, by omega, hk, fun z => z - f, by show f - f = 0; omega, by show f + 1 - f = 1; omega, fun z a b => Or.inl (by
    have e : z = f := by omega
    subst e
    refine ⟨h, ?_, ?_, ?_⟩
    · show 0 ≤ z - z
      omega
    · show z - z + 1 ≤ k
      omega
    · show z + 1 - z = z - z + 1
      omega)⟩
theorem SG.op {s : Nat → Int} {f m u k l : Int} (h : SG s f m k) (g : SG s m u l) (ho : 2 ≤ s u.toNat % 16 ∧ s u.toNat % 16 ≤ 6) (hk : l + 1 ≤ k) : SG s f (u + 1) k := by
  obtain ⟨h1, h2, h3, τ, h4, h5, h6⟩ := h
  obtain ⟨g1, g2, g3, σ, g4, g5, g6⟩ := g
  refine ⟨h1, by omega, h3, fun z => if z ≤ m then τ z else if z ≤ u then σ z + 1 else 1, ?_, ?_, fun z a b => ?_⟩
  · show (if f ≤ m then τ f else _) = 0
    rw [if_pos (by omega)]; exact h4
  · show (if u + 1 ≤ m then τ (u + 1) else if u + 1 ≤ u then σ (u + 1) + 1 else 1) = 1
    rw [if_neg (by omega), if_neg (by omega)]
  · show ((s z.toNat % 16 = 0 ∨ s z.toNat % 16 = 1) ∧ 0 ≤ (if z ≤ m then τ z else if z ≤ u then σ z + 1 else 1) ∧ (if z ≤ m then τ z else if z ≤ u then σ z + 1 else 1) + 1 ≤ k ∧ (if z + 1 ≤ m then τ (z + 1) else if z + 1 ≤ u then σ (z + 1) + 1 else 1) = (if z ≤ m then τ z else if z ≤ u then σ z + 1 else 1) + 1) ∨ (2 ≤ s z.toNat % 16 ∧ s z.toNat % 16 ≤ 6 ∧ 2 ≤ (if z ≤ m then τ z else if z ≤ u then σ z + 1 else 1) ∧ (if z ≤ m then τ z else if z ≤ u then σ z + 1 else 1) ≤ k ∧ (if z + 1 ≤ m then τ (z + 1) else if z + 1 ≤ u then σ (z + 1) + 1 else 1) = (if z ≤ m then τ z else if z ≤ u then σ z + 1 else 1) - 1)
    by_cases a1 : z + 1 ≤ m
    · rw [if_pos (by omega), if_pos a1]
      exact h6 z a (by omega)
    · by_cases a2 : z = m
      · subst a2
        rw [if_pos (by omega), if_neg a1, if_pos (by omega), h5]
        have := g6 z (by omega) (by omega)
        rw [g4] at this
        omega
      · by_cases a3 : z = u
        · subst a3
          rw [if_neg (by omega), if_pos (by omega), if_neg a1, if_neg (by omega), g5]
          omega
        · rw [if_neg (by omega), if_pos (by omega), if_neg a1, if_pos (by omega)]
          have := g6 z (by omega) (by omega)
          omega
/-- the first side's code grows by a sum -/
def GR (t : Nat) (V U : Nat → Nat → Int) (k : Int) : Prop := (∀ j : Nat, (j : Int) < V t 1 → U (t + 1) j = V (t + 1) j) ∧ SG (U (t + 1)) (V t 1) (U t 1) k
theorem GR.up {t : Nat} {V U : Nat → Nat → Int} {k l : Int} (h : GR t V U k) (e : k ≤ l) : GR t V U l := ⟨h.1, h.2.up e⟩
theorem GR.cg {t : Nat} {V V1 U U1 : Nat → Nat → Int} {k : Int} (h : GR t V1 U1 k) (e1 : V1 t 1 = V t 1) (e2 : V1 (t + 1) = V (t + 1)) (e3 : U t 1 = U1 t 1) (e4 : U (t + 1) = U1 (t + 1)) : GR t V U k := by
  unfold GR at h ⊢
  rw [e1, e2] at h
  rw [e3, e4]
  exact h
theorem GR.one {t : Nat} {V U : Nat → Nat → Int} {k x : Int} (h0 : 0 ≤ V t 1) (hk : 1 ≤ k) (e1 : U t 1 = V t 1 + 1) (e2 : ∀ j : Nat, U (t + 1) j = if j = (V t 1).toNat then x else V (t + 1) j) (hx : x % 16 = 0 ∨ x % 16 = 1) : GR t V U k := by
  refine ⟨fun j hj => by rw [e2, if_neg (by omega)], ?_⟩
  rw [e1]
  exact SG.one h0 hk (by rw [e2, if_pos rfl]; exact hx)
theorem GR.op {t : Nat} {V V2 V3 V4 : Nat → Nat → Int} {k l o : Int} (h : GR t V V2 k) (e1 : V3 t 1 = V2 t 1) (e2 : V3 (t + 1) = V2 (t + 1)) (g : GR t V3 V4 l) (ho : 2 ≤ o ∧ o ≤ 6) (hk : l + 1 ≤ k) : GR t V (up2 (up2 V4 (t + 1) (V4 t 1).toNat (o + 16 * 0)) t 1 (V4 t 1 + 1)) k := by
  obtain ⟨h1, h2⟩ := h
  obtain ⟨g1, g2⟩ := g
  rw [e1, e2] at g1
  rw [e1] at g2
  have l1 := h2.2.1
  have l0 := h2.1
  have l2 := g2.2.1
  have e5 : ∀ j : Nat, (j : Int) < V4 t 1 → (up2 (up2 V4 (t + 1) (V4 t 1).toNat (o + 16 * 0)) t 1 (V4 t 1 + 1)) (t + 1) j = V4 (t + 1) j := fun j hj => by
    rw [up2_n _ _ (Or.inl (by omega)), up2_n _ _ (Or.inr (by omega))]
  refine ⟨fun j hj => ?_, ?_⟩
  · rw [e5 j (by omega), g1 j (by omega), h1 j hj]
  · rw [up2_s]
    refine SG.op (m := V2 t 1) (l := l) (h2.cg fun j a b => by rw [e5 j (by omega), g1 j b]) (g2.cg fun j a b => e5 j b) ?_ hk
    rw [up2_n _ _ (Or.inl (by omega)), up2_s]
    omega
def termX (fac : ((Nat → Nat → Int) → (Nat → Nat → Int) → (Nat → Nat → Nat) → Int × (Nat → Nat → Int) → Prop)) (V : Nat → Nat → Int) (J : Nat → Nat → Int) (Rr : Nat → Nat → Nat) : (Int × (Nat → Nat → Int)) → Prop :=
  calVX (fun i k : Nat => (72 ≤ i ∧ i ≤ 72) ∨ (Rr 72 1 ≤ i ∧ i ≤ Rr 72 1 + 4)) V (fac V J Rr) fun z1 V1 => fct (0 ≤ z1 ∧ z1 ≤ 1) <| (if ¬ z1 = 0 then lop2 (202) (fun rc85 (z83 : Int) (V85 : Nat → Nat → Int) => (if 200 ≤ z83 then rtn (1, V85) else calR (f_r_peek V85 J Rr) fun z100 => calR (f_r_stepOf z100) fun z101 => fct (-1 ≤ z101 ∧ z101 ≤ 9) <| (if z101 < 4 then rtn (1, V85) else (if z101 ≤ 6 then rdb (V85 72 2) fun z104 => rdb (wr (z104 + 1)) fun z105 => rdb (up2 V85 72 2 z105) fun V106 => calVX (fun i k : Nat => (72 ≤ i ∧ i ≤ 72) ∨ (Rr 72 1 ≤ i ∧ i ≤ Rr 72 1 + 4)) V106 (fac V106 J Rr) fun z107 V107 => fct (0 ≤ z107 ∧ z107 ≤ 1) <| (if ¬ z107 = 0 then rdb (Rr 72 1) fun t110 => calUX (fun i k : Nat => (t110 ≤ i ∧ i ≤ t110 + 4)) V107 (f_r_put t110 z101 0 V107 J Rr) fun V111 => rc85 (z83 + 1) V111 else rtn (0, V107)) else rtn (1, V85))))) 0 V1 else rtn (0, V1))
def sumX (trm : ((Nat → Nat → Int) → (Nat → Nat → Int) → (Nat → Nat → Nat) → Int × (Nat → Nat → Int) → Prop)) (V : Nat → Nat → Int) (J : Nat → Nat → Int) (Rr : Nat → Nat → Nat) : (Int × (Nat → Nat → Int)) → Prop :=
  calVX (fun i k : Nat => (72 ≤ i ∧ i ≤ 72) ∨ (Rr 72 1 ≤ i ∧ i ≤ Rr 72 1 + 4)) V (trm V J Rr) fun z1 V1 => fct (0 ≤ z1 ∧ z1 ≤ 1) <| (if ¬ z1 = 0 then lop2 (202) (fun rc133 (z131 : Int) (V133 : Nat → Nat → Int) => (if 200 ≤ z131 then rtn (1, V133) else calR (f_r_peek V133 J Rr) fun z156 => calR (f_r_stepOf z156) fun z157 => fct (-1 ≤ z157 ∧ z157 ≤ 9) <| (if z157 = 2 then rdb (V133 72 2) fun z159 => rdb (wr (z159 + 1)) fun z160 => rdb (up2 V133 72 2 z160) fun V161 => calVX (fun i k : Nat => (72 ≤ i ∧ i ≤ 72) ∨ (Rr 72 1 ≤ i ∧ i ≤ Rr 72 1 + 4)) V161 (trm V161 J Rr) fun z162 V162 => fct (0 ≤ z162 ∧ z162 ≤ 1) <| (if ¬ z162 = 0 then rdb (Rr 72 1) fun t165 => calUX (fun i k : Nat => (t165 ≤ i ∧ i ≤ t165 + 4)) V162 (f_r_put t165 z157 0 V162 J Rr) fun V166 => rc133 (z131 + 1) V166 else rtn (0, V162)) else (if z157 = 3 then rdb (V133 72 2) fun z168 => rdb (wr (z168 + 1)) fun z169 => rdb (up2 V133 72 2 z169) fun V170 => calVX (fun i k : Nat => (72 ≤ i ∧ i ≤ 72) ∨ (Rr 72 1 ≤ i ∧ i ≤ Rr 72 1 + 4)) V170 (trm V170 J Rr) fun z171 V171 => fct (0 ≤ z171 ∧ z171 ≤ 1) <| (if ¬ z171 = 0 then rdb (Rr 72 1) fun t174 => calUX (fun i k : Nat => (t174 ≤ i ∧ i ≤ t174 + 4)) V171 (f_r_put t174 z157 0 V171 J Rr) fun V175 => rc133 (z131 + 1) V175 else rtn (0, V171)) else rtn (1, V133))))) 0 V1 else rtn (0, V1))
def factX (PB : (Nat → Nat → Nat) → Nat → Nat → Prop) (brk : Int → ((Nat → Nat → Int) → (Nat → Nat → Int) → (Nat → Nat → Nat) → Int × (Nat → Nat → Int) → Prop)) (V : Nat → Nat → Int) (J : Nat → Nat → Int) (Rr : Nat → Nat → Nat) : (Int × (Nat → Nat → Int)) → Prop :=
  calR (f_r_peek V J Rr) fun z1 => (if ¬ z1 = 91 then calR (f_r_isDigit z1) fun z3 => fct (0 ≤ z3 ∧ z3 ≤ 1) <| (if z3 = 0 then (if z1 < 0 then calVX (fun i k : Nat => (72 ≤ i ∧ i ≤ 72)) V (f_r_fail 1 V J Rr) fun z6 V6 => fct (0 ≤ z6 ∧ z6 ≤ 0) <| rtn (z6, V6) else rdb (iC z1) fun z7 => fct (0 ≤ z7 ∧ z7 ≤ 65535) <| calR (f_j_indexOf 1 z7) fun z8 => (if 0 ≤ z8 then rdb (Rr 72 1) fun t10 => calUX (fun i k : Nat => (t10 ≤ i ∧ i ≤ t10 + 4)) V (f_r_put t10 1 (z1 - 97) V J Rr) fun V11 => rdb (V11 72 2) fun z12 => rdb (wr (z12 + 1)) fun z13 => rdb (up2 V11 72 2 z13) fun V14 => rtn (1, V14) else calVX (fun i k : Nat => (72 ≤ i ∧ i ≤ 72)) V (f_r_fail 1 V J Rr) fun z15 V15 => fct (0 ≤ z15 ∧ z15 ≤ 0) <| rtn (z15, V15))) else calVX (fun i k : Nat => (72 ≤ i ∧ i ≤ 72) ∨ (Rr 72 1 ≤ i ∧ i ≤ Rr 72 1 + 4)) V (f_r_number V J Rr) fun z16 V16 => fct (0 ≤ z16 ∧ z16 ≤ 1) <| rtn (z16, V16)) else calVX (PB Rr) V (brk 93 V J Rr) fun z17 V17 => fct (0 ≤ z17 ∧ z17 ≤ 1) <| rtn (z17, V17))
def brkX (d : Int) (ent sm cnd : ((Nat → Nat → Int) → (Nat → Nat → Int) → (Nat → Nat → Nat) → Int × (Nat → Nat → Int) → Prop)) (x1 : Int) (V : Nat → Nat → Int) (J : Nat → Nat → Int) (Rr : Nat → Nat → Nat) : (Int × (Nat → Nat → Int)) → Prop :=
  calVX (fun i k : Nat => (72 ≤ i ∧ i ≤ 72)) V (ent V J Rr) fun z1 V1 => fct (0 ≤ z1 ∧ z1 ≤ 1) <| (if ¬ z1 = 0 then (if ¬ x1 = 41 then calVX (fun i k : Nat => (72 ≤ i ∧ i ≤ 72) ∨ (Rr 72 1 ≤ i ∧ i ≤ Rr 72 1 + 4)) V1 (sm V1 J Rr) fun z5 V5 => fct (0 ≤ z5 ∧ z5 ≤ 1) <| (if z5 = 0 then rtn (0, V5) else calVX (fun i k : Nat => (72 ≤ i ∧ i ≤ 72)) V5 (f_r_sign x1 V5 J Rr) fun z8 V8 => fct (0 ≤ z8 ∧ z8 ≤ 1) <| (if ¬ z8 = 0 then rdb (up2 V8 72 4 d) fun V10 => rtn (1, V10) else rtn (0, V8))) else calVX (fun i k : Nat => (72 ≤ i ∧ i ≤ 72) ∨ (Rr 72 1 ≤ i ∧ i ≤ Rr 72 1 + 4)) V1 (cnd V1 J Rr) fun z11 V11 => fct (0 ≤ z11 ∧ z11 ≤ 1) <| (if z11 = 0 then rtn (0, V11) else calVX (fun i k : Nat => (72 ≤ i ∧ i ≤ 72)) V11 (f_r_sign x1 V11 J Rr) fun z14 V14 => fct (0 ≤ z14 ∧ z14 ≤ 1) <| (if ¬ z14 = 0 then rdb (up2 V14 72 4 d) fun V16 => rtn (1, V16) else rtn (0, V14)))) else rtn (0, V1))
theorem fx_term0 : f_r_term0 = termX f_r_factor0 := rfl
theorem fx_sum0 : f_r_sum0 = sumX f_r_term0 := rfl
theorem fx_fact0 : f_r_factor0 = factX (fun Rr i _ => (72 ≤ i ∧ i ≤ 72) ∨ (Rr 72 1 ≤ i ∧ i ≤ Rr 72 1 + 4)) f_r_bracket0 := rfl
theorem fx_brk0 : f_r_bracket0 = brkX 0 f_r_enter0 f_r_sum1 f_r_condition1 := rfl
theorem fx_term1 : f_r_term1 = termX f_r_factor1 := rfl
theorem fx_sum1 : f_r_sum1 = sumX f_r_term1 := rfl
theorem fx_fact1 : f_r_factor1 = factX (fun Rr i _ => (72 ≤ i ∧ i ≤ 72) ∨ (Rr 72 1 ≤ i ∧ i ≤ Rr 72 1 + 4)) f_r_bracket1 := rfl
theorem fx_brk1 : f_r_bracket1 = brkX 1 f_r_enter1 f_r_sum2 f_r_condition2 := rfl
theorem fx_term2 : f_r_term2 = termX f_r_factor2 := rfl
theorem fx_sum2 : f_r_sum2 = sumX f_r_term2 := rfl
theorem fx_fact2 : f_r_factor2 = factX (fun Rr i _ => (72 ≤ i ∧ i ≤ 72) ∨ (Rr 72 1 ≤ i ∧ i ≤ Rr 72 1 + 4)) f_r_bracket2 := rfl
theorem fx_brk2 : f_r_bracket2 = brkX 2 f_r_enter2 f_r_sum3 f_r_condition3 := rfl
theorem fx_term3 : f_r_term3 = termX f_r_factor3 := rfl
theorem fx_sum3 : f_r_sum3 = sumX f_r_term3 := rfl
theorem fx_fact3 : f_r_factor3 = factX (fun Rr i _ => (72 ≤ i ∧ i ≤ 72) ∨ (Rr 72 1 ≤ i ∧ i ≤ Rr 72 1 + 4)) f_r_bracket3 := rfl
theorem fx_brk3 : f_r_bracket3 = brkX 3 f_r_enter3 f_r_sum4 f_r_condition4 := rfl
theorem fx_term4 : f_r_term4 = termX f_r_factor4 := rfl
theorem fx_sum4 : f_r_sum4 = sumX f_r_term4 := rfl
theorem fx_fact4 : f_r_factor4 = factX (fun Rr i _ => (72 ≤ i ∧ i ≤ 72) ∨ (Rr 72 1 ≤ i ∧ i ≤ Rr 72 1 + 4)) f_r_bracket4 := rfl
theorem fx_brk4 : f_r_bracket4 = brkX 4 f_r_enter4 f_r_sum5 f_r_condition5 := rfl
theorem fx_term5 : f_r_term5 = termX f_r_factor5 := rfl
theorem fx_sum5 : f_r_sum5 = sumX f_r_term5 := rfl
theorem fx_fact5 : f_r_factor5 = factX (fun Rr i _ => (72 ≤ i ∧ i ≤ 72) ∨ (Rr 72 1 ≤ i ∧ i ≤ Rr 72 1 + 4)) f_r_bracket5 := rfl
theorem fx_brk5 : f_r_bracket5 = brkX 5 f_r_enter5 f_r_sum6 f_r_condition6 := rfl
theorem fx_term6 : f_r_term6 = termX f_r_factor6 := rfl
theorem fx_sum6 : f_r_sum6 = sumX f_r_term6 := rfl
theorem fx_fact6 : f_r_factor6 = factX (fun _ i _ => 72 ≤ i ∧ i ≤ 72) f_r_bracket6 := rfl
/-- the state of the reading on both sides: signs not landed, code, how far the code is behind the signs -/
def RS1 (t : Nat) (d s : Int) (V W : Nat → Nat → Int) (L : List Int) : Prop := PP V W ∧ CA t V W L ∧ V 72 4 = d ∧ W 0 9 = d ∧ 0 ≤ s ∧ V t 1 + s ≤ W 0 5
/-- what the reference leaves as it was -/
def KM (n : Int) (W X : Nat → Nat → Int) : Prop := (∀ j : Nat, (j : Int) < n → X 6 j = W 6 j) ∧ (∀ i : Nat, i ≠ 0 → i ≠ 5 → i ≠ 6 → X i = W i) ∧ X 0 6 = W 0 6 ∧ X 0 12 = W 0 12 ∧ X 0 4 = W 0 4
/-- what the first side leaves as it was -/
def KX (t : Nat) (V U : Nat → Nat → Int) : Prop := (∀ i : Nat, i ≠ 72 → i ≠ t → i ≠ t + 1 → U i = V i) ∧ (∀ k : Nat, k ≠ 1 → U t k = V t k) ∧ U 72 3 = V 72 3
theorem KM.rf {n : Int} {W : Nat → Nat → Int} : KM n W W := ⟨fun _ _ => rfl, fun _ _ _ _ => rfl, rfl, rfl, rfl⟩
theorem KM.tr {n m : Int} {W X Y : Nat → Nat → Int} (h : KM n W X) (k : KM m X Y) (hn : n ≤ m) : KM n W Y := ⟨fun j hj => (k.1 j (by omega)).trans (h.1 j hj), fun i a b c => (k.2.1 i a b c).trans (h.2.1 i a b c), k.2.2.1.trans h.2.2.1, k.2.2.2.1.trans h.2.2.2.1, k.2.2.2.2.trans h.2.2.2.2⟩
theorem KX.rf {t : Nat} {V : Nat → Nat → Int} : KX t V V := ⟨fun _ _ _ _ => rfl, fun _ _ => rfl, rfl⟩
theorem KX.tr {t : Nat} {V U Y : Nat → Nat → Int} (h : KX t V U) (k : KX t U Y) : KX t V Y := ⟨fun i a b c => (k.1 i a b c).trans (h.1 i a b c), fun q hq => (k.2.1 q hq).trans (h.2.1 q hq), k.2.2.trans h.2.2⟩
theorem KM.fold {n : Int} {W : Nat → Nat → Int} (P : List Int) : KM n W (P.foldl clo W) := ⟨fun j _ => by rw [fold_r (by decide) (by decide)], fun i a b c => fold_r a b P W, fold_0 (by decide) (by decide) P W, fold_0 (by decide) (by decide) P W, fold_0 (by decide) (by decide) P W⟩
theorem KM.push {n s : Int} {W : Nat → Nat → Int} (hn : n ≤ W 0 11) (h0 : 0 ≤ W 0 11) : KM n W (pshd W s) := by
  unfold pshd
  refine ⟨fun j hj => ?_, fun i a b c => ?_, ?_, ?_, ?_⟩
  · rw [up2_n _ _ (Or.inl (by decide)), up2_n _ _ (Or.inl (by decide)), up2_n _ _ (Or.inr (by omega))]
  · rw [up2_c _ _ a, up2_c _ _ a, up2_c _ _ c]
  all_goals rw [up2_n _ _ (Or.inr (by decide)), up2_n _ _ (Or.inr (by decide)), up2_n _ _ (Or.inl (by decide))]
theorem PP.to {V W V2 W2 : Nat → Nat → Int} (h : PP V W) (h1 : V2 72 2 = W2 0 5) (h2 : V2 72 3 = V 72 3) (h3 : W2 0 6 = W 0 6) (h4 : 0 ≤ W2 0 5 ∧ W2 0 5 ≤ W 0 6) (h5 : V2 58 = V 58) (h6 : V2 59 = V 59) (h7 : W2 4 = W 4) : PP V2 W2 := by
  obtain ⟨p1, p2, p3, p4⟩ := h
  refine ⟨h1, by rw [h2, h3]; exact p2, ⟨h4.1, by omega, by omega, by rw [h3, h5]; exact p3.2.2.2⟩, fun k hk => ?_⟩
  rw [h6, h7]
  exact p4 k (by omega)
theorem CA.to {t : Nat} {V W V2 W2 : Nat → Nat → Int} {L : List Int} (h : CA t V W L) (h1 : V2 t 1 = V t 1) (h2 : V2 (t + 1) = V (t + 1)) (h3 : W2 0 10 = W 0 10) (h4 : W2 5 = W 5) : CA t V2 W2 L := by
  obtain ⟨a, b, c, e⟩ := h
  refine ⟨by omega, by rw [h1, h3]; exact b, fun k hk => ?_, fun i hi => ?_⟩
  · rw [h2, h4]; exact c k (by omega)
  · rw [h2, h3]; exact e i hi
theorem getD_app {L : List Int} {o : Int} {i : Nat} (h : i < L.length) : (L ++ [o]).getD i 0 = L.getD i 0 := by
  rw [List.getD_eq_getElem?_getD, List.getD_eq_getElem?_getD, List.getElem?_append_left h]
theorem getD_end {L : List Int} {o : Int} : (L ++ [o]).getD L.length 0 = o := by
  rw [List.getD_eq_getElem?_getD, List.getElem?_append_right (Nat.le_refl _)]
  simp
/-- the first side puts an operator -/
theorem CA.put {t : Nat} {V W : Nat → Nat → Int} {L : List Int} {o : Int} (h : CA t V W L) : CA t (up2 (up2 V (t + 1) (V t 1).toNat (o + 16 * 0)) t 1 (V t 1 + 1)) W (L ++ [o]) := by
  obtain ⟨a, b, c, e⟩ := h
  have es : (V t 1).toNat = (W 0 10).toNat + L.length := by omega
  refine ⟨a, ?_, fun k hk => ?_, fun i hi => ?_⟩
  · rw [up2_s, b]; simp; omega
  · rw [up2_n _ _ (Or.inl (by omega)), up2_n _ _ (Or.inr (by omega))]; exact c k hk
  · rw [up2_n _ _ (Or.inl (by omega)), es]
    simp only [List.length_append, List.length_cons, List.length_nil] at hi
    by_cases g : i = L.length
    · subst g
      rw [up2_s, getD_end]; omega
    · rw [up2_n _ _ (Or.inr (by omega)), getD_app (by omega)]
      exact e i (by omega)
/-- both put a step -/
theorem CA.both {t : Nat} {V W W2 : Nat → Nat → Int} {x w : Int} (h : CA t V W []) (hx : stw x w) (h1 : W2 0 10 = W 0 10 + 1) (h2 : ∀ k : Nat, W2 5 k = if k = (W 0 10).toNat then w else W 5 k) : CA t (up2 (up2 V (t + 1) (V t 1).toNat x) t 1 (V t 1 + 1)) W2 [] := by
  obtain ⟨a, b, c, e⟩ := h
  simp only [List.length_nil, Int.natCast_zero, Int.add_zero] at b
  refine ⟨by omega, ?_, fun k hk => ?_, fun i hi => by simp at hi⟩
  · rw [up2_s]; simp; omega
  · rw [up2_n _ _ (Or.inl (by omega)), h2, b]
    by_cases g : k = (W 0 10).toNat
    · subst g
      rw [up2_s, if_pos rfl]; exact hx
    · rw [up2_n _ _ (Or.inr g), if_neg g]
      exact c k (by omega)
/-- the end of a part of a text that is wrong: the same fault -/
def BAD (a : Int) (U : Nat → Nat → Int) (r : Int × (Nat → Nat → Int)) : Prop := a = 0 ∧ ∃ X : Nat → Nat → Int, r = (0, X) ∧ FLT (U 72 5) (X 0 7)
def FACS (d : Int) (fac : ((Nat → Nat → Int) → (Nat → Nat → Int) → (Nat → Nat → Nat) → Int × (Nat → Nat → Int) → Prop)) : Prop := ∀ (t : Nat) (s z4 a : Int) (V W J Jm U : Nat → Nat → Int) (R Rm : Nat → Nat → Nat) (r : Int × (Nat → Nat → Int)), isTx t → R 72 1 = t → RS1 t d s V W [] → (0 ≤ z4 ∧ z4 ≤ W 0 11) → fac V J R (a, U) → RA z4 Jm Rm W r →
  (a = 1 ∧ ∃ X : Nat → Nat → Int, RB z4 Jm Rm X r ∧ RS1 t d s U X [] ∧ X 0 11 = W 0 11 ∧ KM (W 0 11) W X ∧ KX t V U ∧ W 0 5 < X 0 5 ∧ GR t V U (13 - 2 * d)) ∨ BAD a U r
/-- nothing of a sum waits right below b -/
def bot (W : Nat → Nat → Int) (b : Int) : Prop := b = 0 ∨ ¬ (2 ≤ iDiv (W 6 (b - 1).toNat) 1048576 ∧ iDiv (W 6 (b - 1).toNat) 1048576 ≤ 6)
def TRMS (d : Int) (trm : ((Nat → Nat → Int) → (Nat → Nat → Int) → (Nat → Nat → Nat) → Int × (Nat → Nat → Int) → Prop)) : Prop := ∀ (t : Nat) (s z4 b a : Int) (A : List Int) (V W J Jm U : Nat → Nat → Int) (R Rm : Nat → Nat → Nat) (r : Int × (Nat → Nat → Int)), isTx t → R 72 1 = t → RS1 t d s V W [] → (A = [] ∨ A = [2] ∨ A = [3]) → WS W b A → bot W b → (0 ≤ z4 ∧ z4 ≤ b) → trm V J R (a, U) → RA z4 Jm Rm W r →
  (a = 1 ∧ ∃ (X : Nat → Nat → Int) (M : List Int), (M = [] ∨ ∃ m : Int, M = [m] ∧ 4 ≤ m ∧ m ≤ 6) ∧ RB z4 Jm Rm X r ∧ RS1 t d s U X M ∧ WS X b (M ++ A) ∧ KM b W X ∧ KX t V U ∧ W 0 5 < X 0 5 ∧ (¬ sgnZ X = 42 ∧ ¬ sgnZ X = 47 ∧ ¬ sgnZ X = 37) ∧ GR t V U (14 - 2 * d)) ∨ BAD a U r
def opsL (O : List Int) : Prop := ∀ o ∈ O, 2 ≤ o ∧ o ≤ 6
def SUMS (d : Int) (sm : ((Nat → Nat → Int) → (Nat → Nat → Int) → (Nat → Nat → Nat) → Int × (Nat → Nat → Int) → Prop)) : Prop := ∀ (t : Nat) (s z4 b a : Int) (V W J Jm U : Nat → Nat → Int) (R Rm : Nat → Nat → Nat) (r : Int × (Nat → Nat → Int)), isTx t → R 72 1 = t → RS1 t d s V W [] → WS W b [] → bot W b → (0 ≤ z4 ∧ z4 ≤ b) → sm V J R (a, U) → RA z4 Jm Rm W r →
  (a = 1 ∧ ∃ (X : Nat → Nat → Int) (O : List Int), opsL O ∧ RB z4 Jm Rm X r ∧ RS1 t d s U X O ∧ WS X b O ∧ KM b W X ∧ KX t V U ∧ W 0 5 < X 0 5 ∧ (¬ sgnZ X = 42 ∧ ¬ sgnZ X = 47 ∧ ¬ sgnZ X = 37 ∧ ¬ sgnZ X = 43 ∧ ¬ sgnZ X = 45) ∧ GR t V U (15 - 2 * d)) ∨ BAD a U r
