-- reading: a condition's steps; landings (own work)
def cgS (τ : Int → Int) (s : Nat → Int) (t z : Int) : Prop :=
  ((s z.toNat % 16 = 0 ∨ s z.toNat % 16 = 1) ∧ 0 ≤ τ z ∧ τ z ≤ 30 ∧ τ (z + 1) = τ z + 1) ∨
  (2 ≤ s z.toNat % 16 ∧ s z.toNat % 16 ≤ 6 ∧ 2 ≤ τ z ∧ τ z ≤ 30 ∧ τ (z + 1) = τ z - 1) ∨
  (7 ≤ s z.toNat % 16 ∧ s z.toNat % 16 ≤ 9 ∧ τ z = 2 ∧ τ (z + 1) = -1) ∨
  (s z.toNat % 16 = 10 ∧ τ z = -1 ∧ τ (z + 1) = -1) ∨
  ((s z.toNat % 16 = 11 ∨ s z.toNat % 16 = 12) ∧ τ z = -1 ∧ τ (z + 1) = 0 ∧ z < s z.toNat / 16 ∧ s z.toNat / 16 ≤ t ∧ τ (s z.toNat / 16) = -1)
def CG (s : Nat → Int) (f t : Int) : Prop := 0 ≤ f ∧ f < t ∧ ∃ τ : Int → Int, τ f = 0 ∧ τ t = -1 ∧ ∀ z : Int, f ≤ z → z < t → cgS τ s t z
theorem CG.cg {s u : Nat → Int} {f t : Int} (h : CG s f t) (e : ∀ j : Nat, f ≤ j → (j : Int) < t → u j = s j) : CG u f t := by
  obtain ⟨h1, h2, τ, h4, h5, h6⟩ := h
  refine ⟨h1, h2, τ, h4, h5, fun z a b => ?_⟩
  have := h6 z a b
  unfold cgS at this ⊢
  rw [e z.toNat (by omega) (by omega)]
  exact this
theorem CG.cmp {s : Nat → Int} {f m u k l : Int} (h : SG s f m k) (g : SG s m u l) (ho : 7 ≤ s u.toNat % 16 ∧ s u.toNat % 16 ≤ 9) (hk : k ≤ 30) (hl : l ≤ 29) : CG s f (u + 1) := by
  obtain ⟨h1, h2, h3, τ, h4, h5, h6⟩ := h
  obtain ⟨g1, g2, g3, σ, g4, g5, g6⟩ := g
  obtain ⟨θ, hθ⟩ : ∃ θ : Int → Int, ∀ z : Int, (z ≤ m → θ z = τ z) ∧ (m < z → z ≤ u → θ z = σ z + 1) ∧ (u < z → θ z = -1) := by
    refine ⟨fun z => if z ≤ m then τ z else if z ≤ u then σ z + 1 else -1, fun z => ⟨fun a => if_pos a, fun a b => ?_, fun a => ?_⟩⟩
    · show (if z ≤ m then τ z else if z ≤ u then σ z + 1 else -1) = _
      rw [if_neg (by omega), if_pos b]
    · show (if z ≤ m then τ z else if z ≤ u then σ z + 1 else -1) = _
      rw [if_neg (by omega), if_neg (by omega)]
  refine ⟨h1, by omega, θ, by rw [(hθ f).1 (by omega)]; exact h4, (hθ _).2.2 (by omega), fun z a b => ?_⟩
  unfold cgS
  by_cases a1 : z + 1 ≤ m
  · rw [(hθ z).1 (by omega), (hθ (z + 1)).1 a1]
    rcases h6 z a (by omega) with g | g
    · exact Or.inl ⟨g.1, by omega, by omega, by omega⟩
    · exact Or.inr (Or.inl ⟨g.1, by omega, by omega, by omega, by omega⟩)
  · by_cases a2 : z = m
    · subst a2
      rw [(hθ z).1 (by omega), (hθ (z + 1)).2.1 (by omega) (by omega), h5]
      have := g6 z (by omega) (by omega)
      rw [g4] at this
      rcases this with g | g
      · exact Or.inl ⟨g.1, by omega, by omega, by omega⟩
      · exact absurd g.2.2.1 (by decide)
    · by_cases a3 : z = u
      · subst a3
        rw [(hθ z).2.1 (by omega) (by omega), (hθ (z + 1)).2.2 (by omega), g5]
        exact Or.inr (Or.inr (Or.inl ⟨ho.1, ho.2, by omega, rfl⟩))
      · rw [(hθ z).2.1 (by omega) (by omega), (hθ (z + 1)).2.1 (by omega) (by omega)]
        rcases g6 z (by omega) (by omega) with g | g
        · exact Or.inl ⟨g.1, by omega, by omega, by omega⟩
        · exact Or.inr (Or.inl ⟨g.1, by omega, by omega, by omega, by omega⟩)
theorem CG.not {s : Nat → Int} {f t : Int} (h : CG s f t) (ho : s t.toNat % 16 = 10) : CG s f (t + 1) := by
  obtain ⟨h1, h2, τ, h4, h5, h6⟩ := h
  obtain ⟨θ, hθ⟩ : ∃ θ : Int → Int, ∀ z : Int, (z ≤ t → θ z = τ z) ∧ (t < z → θ z = -1) := by
    refine ⟨fun z => if z ≤ t then τ z else -1, fun z => ⟨fun a => if_pos a, fun a => if_neg (by omega)⟩⟩
  refine ⟨h1, by omega, θ, by rw [(hθ f).1 (by omega)]; exact h4, (hθ _).2 (by omega), fun z a b => ?_⟩
  unfold cgS
  by_cases a1 : z = t
  · subst a1
    rw [(hθ z).1 (by omega), (hθ (z + 1)).2 (by omega), h5]
    exact Or.inr (Or.inr (Or.inr (Or.inl ⟨ho, rfl, rfl⟩)))
  · have := h6 z a (by omega)
    unfold cgS at this
    rw [(hθ z).1 (by omega), (hθ (z + 1)).1 (by omega)]
    rcases this with g | g | g | g | ⟨g1, g2, g3, g4, g5, g6⟩
    · exact Or.inl g
    · exact Or.inr (Or.inl g)
    · exact Or.inr (Or.inr (Or.inl g))
    · exact Or.inr (Or.inr (Or.inr (Or.inl g)))
    · exact Or.inr (Or.inr (Or.inr (Or.inr ⟨g1, g2, g3, g4, by omega, by rw [(hθ _).1 g5]; exact g6⟩)))
theorem CG.join {s : Nat → Int} {f j u o : Int} (h : CG s f j) (g : CG s (j + 1) u) (ho : o = 11 ∨ o = 12) (hs : s j.toNat = o + 16 * u) : CG s f u := by
  obtain ⟨h1, h2, τ, h4, h5, h6⟩ := h
  obtain ⟨g1, g2, σ, g4, g5, g6⟩ := g
  obtain ⟨θ, hθ⟩ : ∃ θ : Int → Int, ∀ z : Int, (z ≤ j → θ z = τ z) ∧ (j < z → θ z = σ z) := by
    refine ⟨fun z => if z ≤ j then τ z else σ z, fun z => ⟨fun a => if_pos a, fun a => if_neg (by omega)⟩⟩
  refine ⟨h1, by omega, θ, by rw [(hθ f).1 (by omega)]; exact h4, by rw [(hθ u).2 (by omega)]; exact g5, fun z a b => ?_⟩
  unfold cgS
  by_cases a1 : z < j
  · have := h6 z a a1
    unfold cgS at this
    rw [(hθ z).1 (by omega), (hθ (z + 1)).1 (by omega)]
    rcases this with k | k | k | k | ⟨k1, k2, k3, k4, k5, k6⟩
    · exact Or.inl k
    · exact Or.inr (Or.inl k)
    · exact Or.inr (Or.inr (Or.inl k))
    · exact Or.inr (Or.inr (Or.inr (Or.inl k)))
    · exact Or.inr (Or.inr (Or.inr (Or.inr ⟨k1, k2, k3, k4, by omega, by rw [(hθ _).1 k5]; exact k6⟩)))
  · by_cases a2 : z = j
    · subst a2
      rw [(hθ z).1 (by omega), (hθ (z + 1)).2 (by omega), h5, g4, hs, show (o + 16 * u) / 16 = u by omega, (hθ u).2 (by omega), g5]
      exact Or.inr (Or.inr (Or.inr (Or.inr ⟨by omega, rfl, rfl, by omega, Int.le_refl _, rfl⟩)))
    · have := g6 z (by omega) b
      unfold cgS at this
      rw [(hθ z).2 (by omega), (hθ (z + 1)).2 (by omega)]
      rcases this with k | k | k | k | ⟨k1, k2, k3, k4, k5, k6⟩
      · exact Or.inl k
      · exact Or.inr (Or.inl k)
      · exact Or.inr (Or.inr (Or.inl k))
      · exact Or.inr (Or.inr (Or.inr (Or.inl k)))
      · exact Or.inr (Or.inr (Or.inr (Or.inr ⟨k1, k2, k3, k4, k5, by rw [(hθ _).2 (by omega)]; exact k6⟩)))
/-- the first side's code grows by a condition -/
def CR (t : Nat) (V U : Nat → Nat → Int) : Prop := (∀ j : Nat, (j : Int) < V t 1 → U (t + 1) j = V (t + 1) j) ∧ CG (U (t + 1)) (V t 1) (U t 1)
theorem CR.cg {t : Nat} {V V1 U U1 : Nat → Nat → Int} (h : CR t V1 U1) (e1 : V1 t 1 = V t 1) (e2 : V1 (t + 1) = V (t + 1)) (e3 : U t 1 = U1 t 1) (e4 : U (t + 1) = U1 (t + 1)) : CR t V U := by
  unfold CR at h ⊢
  rw [e1, e2] at h
  rw [e3, e4]
  exact h
theorem CR.not {t : Nat} {V U : Nat → Nat → Int} (h : CR t V U) : CR t V (up2 (up2 U (t + 1) (U t 1).toNat (10 + 16 * 0)) t 1 (U t 1 + 1)) := by
  obtain ⟨h1, h2⟩ := h
  have l0 := h2.1
  have l1 := h2.2.1
  have e5 : ∀ j : Nat, (j : Int) < U t 1 → (up2 (up2 U (t + 1) (U t 1).toNat (10 + 16 * 0)) t 1 (U t 1 + 1)) (t + 1) j = U (t + 1) j := fun j hj => by
    rw [up2_n _ _ (Or.inl (by omega)), up2_n _ _ (Or.inr (by omega))]
  refine ⟨fun j hj => ?_, ?_⟩
  · rw [e5 j (by omega), h1 j hj]
  · rw [up2_s]
    refine CG.not (h2.cg fun j a b => e5 j b) ?_
    rw [up2_n _ _ (Or.inl (by omega)), up2_s]
    decide
theorem CR.cmp {t : Nat} {V V2 V3 V4 : Nat → Nat → Int} {k l o : Int} (h : GR t V V2 k) (e1 : V3 t 1 = V2 t 1) (e2 : V3 (t + 1) = V2 (t + 1)) (g : GR t V3 V4 l) (ho : 7 ≤ o ∧ o ≤ 9) (hk : k ≤ 30) (hl : l ≤ 29) : CR t V (up2 (up2 V4 (t + 1) (V4 t 1).toNat (o + 16 * 0)) t 1 (V4 t 1 + 1)) := by
  obtain ⟨h1, h2⟩ := h
  obtain ⟨g1, g2⟩ := g
  rw [e1, e2] at g1
  rw [e1] at g2
  have l1 := h2.2.1
  have l0 := h2.1
  have l2 := g2.2.1
  have e5 : ∀ j : Nat, (j : Int) < V4 t 1 → (up2 (up2 V4 (t + 1) (V4 t 1).toNat (o + 16 * 0)) t 1 (V4 t 1 + 1)) (t + 1) j = V4 (t + 1) j := fun j hj => by
    rw [up2_n _ _ (Or.inl (by omega)), up2_n _ _ (Or.inr (by omega))]
  refine ⟨fun j hj => ?_, ?_⟩
  · rw [e5 j (by omega), g1 j (by omega), h1 j hj]
  · rw [up2_s]
    refine CG.cmp (m := V2 t 1) (k := k) (l := l) (h2.cg fun j a b => by rw [e5 j (by omega), g1 j b]) (g2.cg fun j a b => e5 j b) ?_ hk hl
    rw [up2_n _ _ (Or.inl (by omega)), up2_s]
    omega
/-- the code, but for the jumps P that the first side has landed and the reference has not -/
def CP (t : Nat) (V W : Nat → Nat → Int) (P : List (Int × Int)) : Prop := 0 ≤ W 0 10 ∧ V t 1 = W 0 10 ∧ (∀ k : Nat, (k : Int) < W 0 10 → (∀ p ∈ P, ¬ p.2 = (k : Int)) → stw (V (t + 1) k) (W 5 k)) ∧ (∀ p ∈ P, (p.1 = 11 ∨ p.1 = 12) ∧ 0 ≤ p.2 ∧ p.2 < W 0 10 ∧ V (t + 1) p.2.toNat = p.1 + 16 * V t 1 ∧ W 5 p.2.toNat = 1048576 * p.1 + 0) ∧ (P.map Prod.snd).Nodup
theorem CP.ca {t : Nat} {V W : Nat → Nat → Int} (h : CP t V W []) : CA t V W [] := by
  obtain ⟨h1, h2, h3, -, -⟩ := h
  exact ⟨h1, by rw [h2]; simp, fun k hk => h3 k hk (fun p hp => by simp at hp), fun i hi => by simp at hi⟩
theorem CA.cp {t : Nat} {V W : Nat → Nat → Int} (h : CA t V W []) : CP t V W [] := by
  obtain ⟨h1, h2, h3, -⟩ := h
  exact ⟨h1, by rw [h2]; simp, fun k hk _ => h3 k hk, fun p hp => by simp at hp, by simp⟩
theorem CP.to {t : Nat} {V W V2 W2 : Nat → Nat → Int} {P : List (Int × Int)} (h : CP t V W P) (h1 : V2 t 1 = V t 1) (h2 : V2 (t + 1) = V (t + 1)) (h3 : W2 0 10 = W 0 10) (h4 : W2 5 = W 5) : CP t V2 W2 P := by
  unfold CP at h ⊢
  rw [h1, h2, h3, h4]
  exact h
/-- the first side lands one jump more -/
theorem CP.land {t : Nat} {V V2 W : Nat → Nat → Int} {P : List (Int × Int)} {o j : Int} (h : CP t V W P) (ho : o = 11 ∨ o = 12) (hj : 0 ≤ j ∧ j < W 0 10) (hn : ∀ p ∈ P, ¬ p.2 = j) (hv : V (t + 1) j.toNat = o + 16 * 0) (e1 : V2 t 1 = V t 1) (e2 : V2 (t + 1) j.toNat = o + 16 * V t 1) (e3 : ∀ k : Nat, ¬ k = j.toNat → V2 (t + 1) k = V (t + 1) k) : CP t V2 W (P ++ [(o, j)]) := by
  obtain ⟨h1, h2, h3, h4, h5⟩ := h
  refine ⟨h1, by rw [e1]; exact h2, fun k hk hp => ?_, fun p hp => ?_, ?_⟩
  · have g := hp (o, j) (by simp)
    rw [e3 k (fun e => g (by show j = k; omega))]
    exact h3 k hk (fun p hpp => hp p (List.mem_append_left _ hpp))
  · rcases List.mem_append.mp hp with hp | hp
    · have := hn p hp
      obtain ⟨k1, k2, k3, k4, k5⟩ := h4 p hp
      refine ⟨k1, k2, k3, ?_, k5⟩
      rw [e3 _ (by omega), e1]; exact k4
    · simp only [List.mem_cons, List.not_mem_nil, or_false] at hp
      subst hp
      refine ⟨ho, hj.1, hj.2, by rw [e1]; exact e2, ?_⟩
      obtain ⟨op, v, w1, w2⟩ := h3 j.toNat (by omega) (fun p hpp => by have := hn p hpp; omega)
      unfold stp at w2
      rw [w1]
      show 1048576 * op + v = 1048576 * o + 0
      omega
  · rw [List.map_append, List.nodup_append]
    refine ⟨h5, by simp, fun a ha b hb => ?_⟩
    simp only [List.map_cons, List.map_nil, List.mem_cons, List.not_mem_nil, or_false] at hb
    obtain ⟨p, hp, rfl⟩ := List.mem_map.mp ha
    subst hb
    exact hn p hp
/-- the words P wait above place b -/
def WJ (W : Nat → Nat → Int) (b : Int) (P : List (Int × Int)) : Prop := 0 ≤ b ∧ W 0 11 = b + P.length ∧ ∀ i : Nat, i < P.length → W 6 ((W 0 11).toNat - 1 - i) = 1048576 * (P.getD i (0, 0)).1 + (P.getD i (0, 0)).2
/-- the reference lands all that wait -/
theorem landed {t : Nat} {m b : Int} {V J : Nat → Nat → Int} {R : Nat → Nat → Nat} (hm : m = 11 ∨ m = 12) (hV : V t 1 ≤ 220) : ∀ (Q : List (Int × Int)) (n : Nat) (X Y : Nat → Nat → Int), CP t V X Q → WJ X b Q → (∀ p ∈ Q, 11 ≤ p.1 ∧ p.1 ≤ m) → 1 ≤ b → ¬ (11 ≤ iDiv (X 6 (b - 1).toNat) 1048576 ∧ iDiv (X 6 (b - 1).toNat) 1048576 ≤ m) → lop1 n (laB (m - 11) J R) X Y → CP t V Y [] ∧ Y 0 11 = b ∧ Y 6 = X 6 ∧ (∀ k : Nat, k ≠ 11 → Y 0 k = X 0 k) ∧ ∀ i : Nat, i ≠ 0 → i ≠ 5 → Y i = X i := by
  intro Q
  induction Q with
  | nil =>
    intro n X Y hC hW _ hb ht h
    have e11 : X 0 11 = b := by have := hW.2.1; simpa using this
    have et : wtop X = iDiv (X 6 (b - 1).toNat) 1048576 := by unfold wtop; rw [if_neg (by omega), e11]
    have := la_stop (by omega) h (by omega) (by omega)
    subst this
    exact ⟨hC, e11, rfl, fun _ _ => rfl, fun _ _ _ => rfl⟩
  | cons p Q ih =>
    intro n X Y hC hW hp hb ht h
    obtain ⟨c1, c2, c3, c4, c5⟩ := hC
    have hpp := hp p (List.mem_cons_self ..)
    obtain ⟨k1, k2, k3, k4, k5⟩ := c4 p (List.mem_cons_self ..)
    have w2 : X 0 11 = b + (Q.length + 1) := by have := hW.2.1; simpa using this
    have w3 : X 6 ((X 0 11).toNat - 1 - 0) = 1048576 * p.1 + p.2 := hW.2.2 0 (by simp)
    rw [show (X 0 11).toNat - 1 - 0 = (X 0 11 - 1).toNat by omega] at w3
    obtain ⟨n2, h2⟩ := la_go (o := p.1) (p := p.2) h (by omega) (by omega) (by omega) w3
    have nd : ∀ q ∈ Q, ¬ q.2 = p.2 := fun q hq e => by
      rw [List.map_cons, List.nodup_cons] at c5
      exact c5.1 (by rw [← e]; exact List.mem_map_of_mem hq)
    have e5 : ∀ k : Nat, lnd X p.2.toNat 5 k = if k = p.2.toNat then 1048576 * iDiv (X 5 p.2.toNat) 1048576 + X 0 10 else X 5 k := fun k => by
      unfold lnd
      rw [up2_n _ _ (Or.inl (by decide))]
      by_cases e : k = p.2.toNat
      · subst e; rw [up2_s, if_pos rfl]
      · rw [up2_n _ _ (Or.inr e), if_neg e]
    have e0 : ∀ k : Nat, k ≠ 11 → lnd X p.2.toNat 0 k = X 0 k := fun k hk => by unfold lnd; rw [up2_n _ _ (Or.inr hk), up2_n _ _ (Or.inl (by decide))]
    have er : ∀ i : Nat, i ≠ 0 → i ≠ 5 → lnd X p.2.toNat i = X i := fun i i1 i2 => by unfold lnd; rw [up2_c _ _ i1, up2_c _ _ i2]
    have e11 : lnd X p.2.toNat 0 11 = X 0 11 - 1 := by unfold lnd; rw [up2_s]
    have hop : iDiv (X 5 p.2.toNat) 1048576 = p.1 := by rw [k5]; exact (iDiv_p (by omega) (by decide)).trans (by omega)
    have C2 : CP t V (lnd X p.2.toNat) Q := by
      refine ⟨by rw [e0 10 (by decide)]; exact c1, by rw [e0 10 (by decide)]; exact c2, fun k hk hq => ?_, fun q hq => ?_, ?_⟩
      · rw [e0 10 (by decide)] at hk
        rw [e5]
        by_cases e : k = p.2.toNat
        · rw [if_pos e, hop]
          subst e
          rw [k4]
          exact ⟨p.1, X 0 10, rfl, by omega, by omega, by omega, by omega, Or.inl ⟨by omega, by omega⟩⟩
        · rw [if_neg e]
          refine c3 k hk (fun q hq2 => ?_)
          rcases List.mem_cons.mp hq2 with rfl | hq2
          · omega
          · exact hq q hq2
      · obtain ⟨l1, l2, l3, l4, l5⟩ := c4 q (List.mem_cons_of_mem _ hq)
        have := nd q hq
        refine ⟨l1, l2, by rw [e0 10 (by decide)]; exact l3, l4, ?_⟩
        rw [e5, if_neg (by omega)]; exact l5
      · rw [List.map_cons, List.nodup_cons] at c5
        exact c5.2
    have W2 : WJ (lnd X p.2.toNat) b Q := by
      refine ⟨hW.1, by rw [e11]; omega, fun i hi => ?_⟩
      rw [er 6 (by decide) (by decide), e11]
      have := hW.2.2 (i + 1) (by simp; omega)
      rw [show (X 0 11 - 1).toNat - 1 - i = (X 0 11).toNat - 1 - (i + 1) by omega, this]
      rfl
    obtain ⟨r1, r2, r3, r4, r5⟩ := ih n2 _ Y C2 W2 (fun q hq => hp q (List.mem_cons_of_mem _ hq)) hb (by rw [er 6 (by decide) (by decide)]; exact ht) h2
    exact ⟨r1, r2, r3.trans (er 6 (by decide) (by decide)), fun k hk => (r4 k hk).trans (e0 k hk), fun i i1 i2 => (r5 i i1 i2).trans (er i i1 i2)⟩
theorem q_land {t : Nat} {x o : Int} {V J U : Nat → Nat → Int} {R : Nat → Nat → Nat} (h : f_r_land t x V J R U) (hl : 0 ≤ V t 1 ∧ V t 1 ≤ 200) : (x < 0 → U = V) ∧ ((0 ≤ x ∧ x < 200) → V (t + 1) x.toNat = o + 16 * 0 → (o = 11 ∨ o = 12) → U = up2 V (t + 1) x.toNat (o + 16 * V t 1)) := by
  unfold f_r_land at h
  obtain ⟨z1, -, h⟩ := rdb_g h
  refine ⟨fun g => ?_, fun g hv ho => ?_⟩
  · rw [if_pos g] at h; exact h
  · rw [if_neg (by omega), if_neg (by omega)] at h
    obtain ⟨z4, e4, h⟩ := rdb_g h
    obtain ⟨z5, e5, -, h⟩ := rdb_g h
    obtain ⟨z6, e6, h⟩ := rdb_g h
    obtain ⟨z7, e7, h⟩ := rdb_g h
    obtain ⟨V8, e8, h⟩ := rdb_g h
    have h : U = V8 := h
    rw [← e4, ← e6, hv, ← e5, show o + 16 * 0 = o by omega, stp_or (by omega) (by omega)] at e7
    rw [h, ← e8, ← e7]
theorem q_jump {t : Nat} {x o a : Int} {V J U : Nat → Nat → Int} {R : Nat → Nat → Nat} (h : f_r_jump t x o V J R (a, U)) : ∃ V2 : Nat → Nat → Int, f_r_land t x V J R V2 ∧ f_r_put t o 0 V2 J R U ∧ a = U t 1 - 1 := by
  unfold f_r_jump at h
  obtain ⟨z1, -, h⟩ := rdb_g h
  obtain ⟨V2, h2, -, h⟩ := h
  obtain ⟨V3, h3, -, h⟩ := h
  obtain ⟨z4, e4, -, h⟩ := rdb_g h
  simp only [rtn, Prod.mk.injEq] at h
  obtain ⟨h5, h6⟩ := h
  subst h6
  exact ⟨V2, h2, h3, by rw [h5, ← e4]⟩
theorem sgn_eq {W X : Nat → Nat → Int} (h5 : X 0 5 = W 0 5) (h6 : X 0 6 = W 0 6) (h4 : X 4 = W 4) : sgnZ X = sgnZ W := by unfold sgnZ; rw [h5, h6, h4]
