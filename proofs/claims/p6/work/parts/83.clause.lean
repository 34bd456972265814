-- reading a clause, and a text
theorem xTyp.cr {c c2 : Nat → Int} {b f t : Int} (h : xTyp c b f t) (hf : 0 ≤ f) (hc : ∀ k : Nat, f ≤ (k : Int) → (k : Int) < t → c2 k = c k) : xTyp c2 b f t := by
  obtain ⟨g, g0, g1⟩ := h
  exact ⟨g, g0, fun z z1 z2 => by rw [hc z.toNat (by omega) (by omega)]; exact g1 z z1 z2⟩
theorem xTyp.sh {c c2 : Nat → Int} {f t : Int} {B : Nat} (h : xTyp c 0 f t) (hf : 0 ≤ f) (hc : ∀ k : Nat, (k : Int) < t → c2 (B + k) = c k) : xTyp c2 B (B + f) (B + t) := by
  obtain ⟨g, g0, g1⟩ := h
  refine ⟨fun z => g (z - B), ?_, fun z z1 z2 => ?_⟩
  · show g (B + f - B) = 0
    rw [show (B : Int) + f - B = f by omega]; exact g0
  · have k := g1 (z - B) (by omega) (by omega)
    have e : c2 z.toNat = c (z - B).toNat := by
      rw [show z.toNat = B + (z - B).toNat by omega]
      exact hc _ (by omega)
    rw [e]
    generalize c (z - B).toNat = w at k
    obtain ⟨k1, k2, k3, k4⟩ := k
    have e1 : z + 1 - (B : Int) = z - B + 1 := by omega
    refine ⟨k1, ?_, ?_, ?_⟩
    · show 0 ≤ g (z - B) ∧ g (z - B) ≤ z - (B + f)
      clear k4; omega
    · show 0 ≤ g (z + 1 - B) ∧ g (z + 1 - B) ≤ z + 1 - (B + f)
      rw [e1]; clear k4; omega
    · dsimp only
      rw [e1]
      rcases k4 with q | q | q | ⟨q1, q2, q3, q4, q5, q6⟩ | q
      · exact Or.inl q
      · exact Or.inr (Or.inl q)
      · exact Or.inr (Or.inr (Or.inl q))
      · generalize w % 1048576 = v at q4 q5 q6
        refine Or.inr (Or.inr (Or.inr (Or.inl ⟨q1, q2, q3, ?_, ?_, ?_⟩)))
        · clear q1; omega
        · clear q1; omega
        · rw [show (B : Int) + v - B = 0 + v by omega]; exact q6
      · exact Or.inr (Or.inr (Or.inr (Or.inr q)))
def pCls (V : Nat → Nat → Int) (s : Nat) : Prop := 0 ≤ V 8 s ∧ V 8 s ≤ V 9 s ∧ V 9 s ≤ V 10 s ∧ V 10 s ≤ V 0 10 ∧ xTyp (V 5) 0 (V 8 s) (V 9 s) ∧ xTyp (V 5) 0 (V 9 s) (V 10 s)
theorem pCls.cc {V u : Nat → Nat → Int} {s : Nat} (h : pCls V s) (h8 : u 8 s = V 8 s) (h9 : u 9 s = V 9 s) (h10 : u 10 s = V 10 s) (hC : V 0 10 ≤ u 0 10) (h5 : ∀ k : Nat, (k : Int) < V 0 10 → u 5 k = V 5 k) : pCls u s := by
  obtain ⟨a1, a2, a3, a4, a5, a6⟩ := h
  unfold pCls
  rw [h8, h9, h10]
  exact ⟨a1, a2, a3, by omega, a5.cr a1 (fun k k1 k2 => h5 k (by omega)), a6.cr (by omega) (fun k k1 k2 => h5 k (by omega))⟩
def PT (V : Nat → Nat → Int) : Prop := (0 ≤ V 0 5 ∧ V 0 5 ≤ V 0 6 ∧ V 0 6 ≤ 200 ∧ 0 ≤ V 0 10 ∧ V 0 10 ≤ V 0 5 ∧ 0 ≤ V 0 12) ∧ ∀ s : Nat, (s : Int) < V 0 12 → pCls V s
theorem PT.start {u : Nat → Nat → Int} {n : Int} (hn : 0 ≤ n ∧ n ≤ 200) (h5 : u 0 5 = 0) (h6 : u 0 6 = n) (h10 : u 0 10 = 0) (h12 : u 0 12 = 0) : PT u := ⟨by omega, fun s hs => by omega⟩
def clE (V E : Nat → Nat → Int) : Prop := ∃ c o : Int, E = up2 (up2 (up2 (up2 (up2 V 7 (V 0 12).toNat c) 0 5 (V 0 5 + 1)) 8 (V 0 12).toNat (V 0 10)) 0 9 o) 0 11 0
theorem clE.fact {V E : Nat → Nat → Int} (h : PT V) (hlt : V 0 5 < V 0 6) (hE : clE V E) : PG E ∧ E 0 10 ≤ E 0 5 ∧ E 0 11 = 0 ∧ E 5 = V 5 ∧ E 0 10 = V 0 10 ∧ E 0 6 = V 0 6 ∧ E 0 12 = V 0 12 ∧ E 0 5 = V 0 5 + 1 ∧ (∀ k : Nat, E 8 k = if k = (V 0 12).toNat then V 0 10 else V 8 k) ∧ (∀ i : Nat, i ≠ 0 → i ≠ 7 → i ≠ 8 → E i = V i) := by
  obtain ⟨c, o, hE⟩ := hE
  have r : ∀ i : Nat, i ≠ 0 → i ≠ 7 → i ≠ 8 → E i = V i := fun i i1 i2 i3 => by rw [hE, up0r i1, up0r i1, up2_c _ _ i3, up0r i1, up2_c _ _ i2]
  have z : ∀ k : Nat, k ≠ 5 → k ≠ 9 → k ≠ 11 → E 0 k = V 0 k := fun k k1 k2 k3 => by rw [hE, up0 (Or.inr k3), up0 (Or.inr k2), up2_n _ _ (Or.inl (by omega)), up0 (Or.inr k1), up2_n _ _ (Or.inl (by omega))]
  have z5 : E 0 5 = V 0 5 + 1 := by rw [hE, up0 (Or.inr (by omega)), up0 (Or.inr (by omega)), up2_n _ _ (Or.inl (by omega)), up2_s]
  have z11 : E 0 11 = 0 := by rw [hE, up2_s]
  have e8 : ∀ k : Nat, E 8 k = if k = (V 0 12).toNat then V 0 10 else V 8 k := by
    intro k
    rw [hE, up0 (Or.inl (by omega)), up0 (Or.inl (by omega))]
    by_cases q : k = (V 0 12).toNat
    · subst q; rw [up2_s, if_pos rfl]
    · rw [up2_n _ _ (Or.inr q), if_neg q, up0 (Or.inl (by omega)), up2_n _ _ (Or.inl (by omega))]
  clear hE
  obtain ⟨⟨p1, p2, p3, p4, p5, p6⟩, -⟩ := h
  have o10 := z 10 (by omega) (by omega) (by omega)
  have o6 := z 6 (by omega) (by omega) (by omega)
  have o12 := z 12 (by omega) (by omega) (by omega)
  exact ⟨⟨by omega, by omega, by omega, by omega, by omega, by omega⟩, by omega, z11, r 5 (by omega) (by omega) (by omega), o10, o6, o12, z5, e8, r⟩
theorem clF {E B F : Nat → Nat → Int} {q : Nat} (hB : pSum E B) (hc : E 0 10 ≤ E 0 5) (hF : F = up2 B 9 q (B 0 10)) : PG F ∧ F 0 10 ≤ F 0 5 := by
  have z : ∀ k : Nat, F 0 k = B 0 k := fun k => by rw [hF, up2_n _ _ (Or.inl (by omega))]
  obtain ⟨b1, b2, b3, b4, b5, b6, b7⟩ := hB
  unfold PG at b5 ⊢
  rw [z 5, z 6, z 10, z 11]
  exact ⟨b5, by omega⟩
def pClause (V u : Nat → Nat → Int) : Prop := PT u ∧ V 0 5 < u 0 5 ∧ u 0 6 = V 0 6 ∧ u 0 12 = V 0 12 + 1 ∧ (∀ i : Nat, i ≠ 0 → i ≠ 5 → i ≠ 6 → i ≠ 7 → i ≠ 8 → i ≠ 9 → i ≠ 10 → u i = V i)
theorem pClause.mk {V E B F D u : Nat → Nat → Int} (h : PT V) (hlt : V 0 5 < V 0 6) (hE : clE V E) (hB : pSum E B) (hF : F = up2 B 9 (V 0 12).toNat (B 0 10)) (hD : pCond F D) (hu : u = up2 (up2 D 10 (V 0 12).toNat (D 0 10)) 0 12 (V 0 12 + 1)) : pClause V u := by
  obtain ⟨-, -, e11, e5, e10, e6, e12, ep, e8, er⟩ := clE.fact h hlt hE
  clear hE
  have fz : ∀ k : Nat, F 0 k = B 0 k := fun k => by rw [hF, up2_n _ _ (Or.inl (by omega))]
  have fr : ∀ i : Nat, i ≠ 9 → F i = B i := fun i hi => by rw [hF, up2_c _ _ hi]
  have f9 : ∀ k : Nat, F 9 k = if k = (V 0 12).toNat then B 0 10 else B 9 k := by
    intro k
    rw [hF]
    by_cases q : k = (V 0 12).toNat
    · subst q; rw [up2_s, if_pos rfl]
    · rw [up2_n _ _ (Or.inr q), if_neg q]
  clear hF
  have uz : ∀ k : Nat, k ≠ 12 → u 0 k = D 0 k := fun k k1 => by rw [hu, up0 (Or.inr k1), up2_n _ _ (Or.inl (by omega))]
  have u12 : u 0 12 = V 0 12 + 1 := by rw [hu, up2_s]
  have ur : ∀ i : Nat, i ≠ 0 → i ≠ 10 → u i = D i := fun i i1 i2 => by rw [hu, up0r i1, up2_c _ _ i2]
  have uX : ∀ k : Nat, u 10 k = if k = (V 0 12).toNat then D 0 10 else D 10 k := by
    intro k
    rw [hu, up0 (Or.inl (by omega))]
    by_cases q : k = (V 0 12).toNat
    · subst q; rw [up2_s, if_pos rfl]
    · rw [up2_n _ _ (Or.inr q), if_neg q]
  clear hu
  obtain ⟨b1, b2, b3, b4, b5, ⟨c1, c2, c3, c4, c5, c6⟩, b7⟩ := hB
  obtain ⟨d1, d2, d3, d4, ⟨g1, g2, g3, g4, g5⟩⟩ := hD
  rw [fz 10] at d1 d2 g1
  have hv := h.2
  obtain ⟨⟨p1, p2, p3, p4, p5, p6⟩, -⟩ := h
  have w10 : u 0 10 = D 0 10 := uz 10 (by omega)
  have w5 : u 0 5 = D 0 5 := uz 5 (by omega)
  have w6 : u 0 6 = D 0 6 := uz 6 (by omega)
  have fz5 := fz 5
  have fz6 := fz 6
  have s5 : ∀ k : Nat, (k : Int) < B 0 10 → u 5 k = B 5 k := fun k hk => by rw [ur 5 (by omega) (by omega), g1 k hk, fr 5 (by omega)]
  have s5v : ∀ k : Nat, (k : Int) < V 0 10 → u 5 k = V 5 k := fun k hk => by rw [s5 k (by omega), c1 k (by omega), e5]
  have r8 : ∀ k : Nat, u 8 k = if k = (V 0 12).toNat then V 0 10 else V 8 k := fun k => by rw [ur 8 (by omega) (by omega), g4 8 (by omega) (by omega) (by omega), fr 8 (by omega), c5 8 (by omega) (by omega) (by omega)]; exact e8 k
  have r9 : ∀ k : Nat, u 9 k = if k = (V 0 12).toNat then B 0 10 else V 9 k := fun k => by
    rw [ur 9 (by omega) (by omega), g4 9 (by omega) (by omega) (by omega), f9, c5 9 (by omega) (by omega) (by omega), er 9 (by omega) (by omega) (by omega)]
  have r10 : ∀ k : Nat, u 10 k = if k = (V 0 12).toNat then D 0 10 else V 10 k := fun k => by
    rw [uX, g4 10 (by omega) (by omega) (by omega), fr 10 (by omega), c5 10 (by omega) (by omega) (by omega), er 10 (by omega) (by omega) (by omega)]
  refine ⟨⟨⟨by omega, by unfold PG at d4; omega, by omega, by omega, by omega, by omega⟩, fun s hs => ?_⟩, by omega, by omega, u12, fun i i0 i5 i6 i7 i8 i9 i10 => ?_⟩
  · by_cases q : s = (V 0 12).toNat
    · unfold pCls
      rw [r8, r9, r10, if_pos q, if_pos q, if_pos q]
      refine ⟨p4, by omega, d2, by omega, ?_, ?_⟩
      · have t := b1.typ
        rw [e10] at t
        exact t.cr p4 (fun k k1 k2 => s5 k k2)
      · rw [ur 5 (by omega) (by omega)]; exact d1
    · exact (hv s (by omega)).cc (by rw [r8, if_neg q]) (by rw [r9, if_neg q]) (by rw [r10, if_neg q]) (by omega) s5v
  · rw [ur i i0 i10, g4 i i0 i5 i6, fr i i9, c5 i i0 i5 i6, er i i0 i7 i8]
