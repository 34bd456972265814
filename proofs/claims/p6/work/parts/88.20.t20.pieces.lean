-- reading: pieces, parts, conditions (own work)
/-- the state behind a part: the first side has landed P, the reference has not -/
def RSP (t : Nat) (d s : Int) (V W : Nat → Nat → Int) (P : List (Int × Int)) : Prop := PP V W ∧ CP t V W P ∧ V 72 4 = d ∧ W 0 9 = d ∧ 0 ≤ s ∧ V t 1 + s ≤ W 0 5
theorem RS1.sp {t : Nat} {d s : Int} {V W : Nat → Nat → Int} (h : RS1 t d s V W []) : RSP t d s V W [] := ⟨h.1, h.2.1.cp, h.2.2.1, h.2.2.2.1, h.2.2.2.2.1, h.2.2.2.2.2⟩
def PIES (d : Int) (pie : ((Nat → Nat → Int) → (Nat → Nat → Int) → (Nat → Nat → Nat) → Int × (Nat → Nat → Int) → Prop)) : Prop := ∀ (t : Nat) (s a : Int) (V W J Jm U : Nat → Nat → Int) (R Rm : Nat → Nat → Nat) (r : Int × (Nat → Nat → Int)), isTx t → R 72 1 = t → RS1 t d s V W [] → TOP 10 W → pie V J R (a, U) → RCz Jm Rm W r →
  (a = 1 ∧ ∃ X : Nat → Nat → Int, RE Jm Rm X r ∧ RS1 t d s U X [] ∧ X 0 11 = W 0 11 ∧ KM (W 0 11) W X ∧ KX t V U ∧ W 0 5 < X 0 5 ∧ CR t V U) ∨ BAD a U r
def LV (m d : Int) (sub : ((Nat → Nat → Int) → (Nat → Nat → Int) → (Nat → Nat → Nat) → Int × (Nat → Nat → Int) → Prop)) : Prop := ∀ (t : Nat) (s a : Int) (V W J Jm U : Nat → Nat → Int) (R Rm : Nat → Nat → Nat) (r : Int × (Nat → Nat → Int)), isTx t → R 72 1 = t → RS1 t d s V W [] → TOP m W → sub V J R (a, U) → RCz Jm Rm W r →
  (a = 1 ∧ ∃ (X : Nat → Nat → Int) (P : List (Int × Int)), RG Jm Rm X r ∧ RSP t d s U X P ∧ WJ X (W 0 11) P ∧ (∀ p ∈ P, 11 ≤ p.1 ∧ p.1 < m ∧ V t 1 ≤ p.2) ∧ KM (W 0 11) W X ∧ KX t V U ∧ W 0 5 < X 0 5 ∧ (12 ≤ m → ¬ sgnZ X = 38) ∧ (13 ≤ m → ¬ sgnZ X = 124) ∧ CR t V U) ∨ BAD a U r
def BRC (d : Int) (brk : Int → ((Nat → Nat → Int) → (Nat → Nat → Int) → (Nat → Nat → Nat) → Int × (Nat → Nat → Int) → Prop)) : Prop := ∀ (t : Nat) (s a : Int) (V W J Jm U : Nat → Nat → Int) (R Rm : Nat → Nat → Nat) (r : Int × (Nat → Nat → Int)), isTx t → R 72 1 = t → RS1 t d s V W [] → 0 ≤ W 0 11 → sgnZ W = 40 → brk 41 V J R (a, U) → RCz Jm Rm (opnd W 13) r →
  (a = 1 ∧ ∃ X : Nat → Nat → Int, (W 0 11 = 0 → r = (1, X)) ∧ (¬ W 0 11 = 0 → RE Jm Rm X r) ∧ RS1 t d s U X [] ∧ X 0 11 = W 0 11 ∧ KM (W 0 11) W X ∧ KX t V U ∧ W 0 5 < X 0 5 ∧ CR t V U) ∨ BAD a U r
theorem wtop_km {W X : Nat → Nat → Int} (h : KM (W 0 11) W X) (e : X 0 11 = W 0 11) (hb : 1 ≤ W 0 11) : wtop X = wtop W := by
  unfold wtop
  rw [e, if_neg (by omega), if_neg (by omega), h.1 _ (by omega)]
theorem PIES.lv {d : Int} {pie : ((Nat → Nat → Int) → (Nat → Nat → Int) → (Nat → Nat → Nat) → Int × (Nat → Nat → Int) → Prop)} (h : PIES d pie) : LV 11 d pie := by
  intro t s a V W J Jm U R Rm r ht hR hS hT hx hm
  rcases h t s a V W J Jm U R Rm r ht hR hS ⟨hT.1, by have := hT.2.1; omega, hT.2.2⟩ hx hm with ⟨f1, X, f2, f3, f4, f5, f6, f7, f8⟩ | hb
  · have e := wtop_km f5 f4 hT.1
    exact Or.inl ⟨f1, X, [], f2.go (by rw [e]; have := hT.2.1; omega), f3.sp, ⟨by have := hT.1; omega, by rw [f4]; simp, fun i hi => by simp at hi⟩, fun p hp => by simp at hp, f5, f6, f7, fun h => absurd h (by decide), fun h => absurd h (by decide), f8⟩
  · exact Or.inr hb
theorem jmpd_v (W : Nat → Nat → Int) (o : Int) : jmpd W o 0 5 = W 0 5 + 1 ∧ jmpd W o 0 10 = W 0 10 + 1 ∧ jmpd W o 0 11 = W 0 11 + 1 ∧ (∀ k : Nat, k ≠ 5 → k ≠ 10 → k ≠ 11 → jmpd W o 0 k = W 0 k) ∧ (∀ k : Nat, jmpd W o 5 k = if k = (W 0 10).toNat then 1048576 * o + 0 else W 5 k) ∧ (∀ k : Nat, jmpd W o 6 k = if k = (W 0 11).toNat then 1048576 * o + W 0 10 else W 6 k) ∧ ∀ i : Nat, i ≠ 0 → i ≠ 5 → i ≠ 6 → jmpd W o i = W i := by
  unfold jmpd
  refine ⟨up2_s _ _ _ _, ?_, ?_, fun k k1 k2 k3 => ?_, fun k => ?_, fun k => ?_, fun i i1 i2 i3 => ?_⟩
  · rw [up2_n _ _ (Or.inr (by decide)), up2_s]
  · rw [up2_n _ _ (Or.inr (by decide)), up2_n _ _ (Or.inr (by decide)), up2_n _ _ (Or.inl (by decide)), up2_s]
  · rw [up2_n _ _ (Or.inr k1), up2_n _ _ (Or.inr k2), up2_n _ _ (Or.inl (by decide)), up2_n _ _ (Or.inr k3), up2_n _ _ (Or.inl (by decide))]
  · rw [up2_n _ _ (Or.inl (by decide)), up2_n _ _ (Or.inl (by decide))]
    by_cases e : k = (W 0 10).toNat
    · subst e; rw [up2_s, if_pos rfl]
    · rw [up2_n _ _ (Or.inr e), if_neg e, up2_n _ _ (Or.inl (by decide)), up2_n _ _ (Or.inl (by decide))]
  · rw [up2_n _ _ (Or.inl (by decide)), up2_n _ _ (Or.inl (by decide)), up2_n _ _ (Or.inl (by decide)), up2_n _ _ (Or.inl (by decide))]
    by_cases e : k = (W 0 11).toNat
    · subst e; rw [up2_s, if_pos rfl]
    · rw [up2_n _ _ (Or.inr e), if_neg e]
  · rw [up2_c _ _ i1, up2_c _ _ i1, up2_c _ _ i2, up2_c _ _ i1, up2_c _ _ i3]
/-- a jump of one's own that waits (j; -1: none) -/
def LJ (t : Nat) (m : Int) (V V2 : Nat → Nat → Int) (j : Int) (P PO : List (Int × Int)) : Prop :=
  (j = -1 ∧ PO = [] ∧ CR t V V2) ∨ (V t 1 ≤ j ∧ j < V2 t 1 ∧ PO = [(m, j)] ∧ V2 (t + 1) j.toNat = m + 16 * 0 ∧ (∀ p ∈ P, j < p.2) ∧ (∀ k : Nat, (k : Int) < V t 1 → V2 (t + 1) k = V (t + 1) k) ∧ CG (V2 (t + 1)) (V t 1) j ∧ CG (V2 (t + 1)) (j + 1) (V2 t 1))
theorem LJ.land {t : Nat} {m j : Int} {V V2 X Vb V3 J : Nat → Nat → Int} {R : Nat → Nat → Nat} {P PO : List (Int × Int)} (hJ : LJ t m V V2 j P PO) (hm : m = 11 ∨ m = 12) (hC : CP t V2 X P) (h0 : 0 ≤ V t 1) (h2 : 0 ≤ V2 t 1 ∧ V2 t 1 ≤ 200) (e1 : Vb t = V2 t) (e2 : Vb (t + 1) = V2 (t + 1)) (h : f_r_land t j Vb J R V3) :
    CP t V3 X (P ++ PO) ∧ CR t V V3 ∧ V3 t = V2 t ∧ ∀ i : Nat, i ≠ t + 1 → V3 i = Vb i := by
  obtain ⟨l1, l2⟩ := q_land (o := m) h (by rw [e1]; exact h2)
  rcases hJ with ⟨j1, j2, j3⟩ | ⟨j1, j2, j3, j4, j5, j6, j7, j8⟩
  · have e3 := l1 (by omega)
    subst e3
    subst j2
    rw [List.append_nil]
    exact ⟨hC.to (by rw [e1]) e2 rfl rfl, j3.cg rfl rfl (by rw [e1]) e2, e1, fun _ _ => rfl⟩
  · have e3 := l2 ⟨by omega, by omega⟩ (by rw [e2]; exact j4) hm
    have et : V3 t = V2 t := by rw [e3, up2_c _ _ (by omega), e1]
    have eo : ∀ k : Nat, ¬ k = j.toNat → V3 (t + 1) k = V2 (t + 1) k := fun k hk => by rw [e3, up2_n _ _ (Or.inr hk), e2]
    have ej : V3 (t + 1) j.toNat = m + 16 * V2 t 1 := by rw [e3, up2_s, e1]
    have e10 := hC.2.1
    subst j3
    refine ⟨hC.land hm ⟨by omega, by omega⟩ (fun p hp => by have := j5 p hp; omega) j4 (by rw [et]) ej eo, ⟨fun k hk => by rw [eo k (by omega)]; exact j6 k hk, ?_⟩, et, fun i hi => by rw [e3, up2_c _ _ hi]⟩
    rw [et]
    exact CG.join (j7.cg fun k k1 k2 => eo k (by omega)) (j8.cg fun k k1 k2 => eo k (by omega)) hm ej
theorem LJ.all {t : Nat} {m j : Int} {V V2 : Nat → Nat → Int} {P PO : List (Int × Int)} (hJ : LJ t m V V2 j P PO) (hm : m = 11 ∨ m = 12) (hP : ∀ p ∈ P, 11 ≤ p.1 ∧ p.1 < m ∧ V t 1 ≤ p.2) : ∀ p ∈ P ++ PO, 11 ≤ p.1 ∧ p.1 < m + 1 ∧ V t 1 ≤ p.2 := fun p hp => by
  rcases List.mem_append.mp hp with hp | hp
  · have := hP p hp; omega
  · rcases hJ with ⟨-, j2, -⟩ | ⟨j1, -, j3, -⟩
    · subst j2; simp at hp
    · subst j3
      simp only [List.mem_cons, List.not_mem_nil, or_false] at hp
      subst hp
      exact ⟨by show 11 ≤ m; omega, by show m < m + 1; omega, j1⟩
/-- what a part comes to, on both sides -/
def LVc (m d : Int) (t : Nat) (s : Int) (V W Jm U : Nat → Nat → Int) (Rm : Nat → Nat → Nat) (r : Int × (Nat → Nat → Int)) : Prop := ∃ (X : Nat → Nat → Int) (P : List (Int × Int)), RG Jm Rm X r ∧ RSP t d s U X P ∧ WJ X (W 0 11) P ∧ (∀ p ∈ P, 11 ≤ p.1 ∧ p.1 < m ∧ V t 1 ≤ p.2) ∧ KM (W 0 11) W X ∧ KX t V U ∧ W 0 5 < X 0 5 ∧ (12 ≤ m → ¬ sgnZ X = 38) ∧ (13 ≤ m → ¬ sgnZ X = 124) ∧ CR t V U
/-- the part ends -/
theorem LV.stop {m c d s j a : Int} {t : Nat} {V W Jm J V2 X U : Nat → Nat → Int} {R Rm : Nat → Nat → Nat} {r : Int × (Nat → Nat → Int)} {P PO : List (Int × Int)} (hm : (m = 11 ∧ c = 38) ∨ (m = 12 ∧ c = 124)) (ht : isTx t) (hR : R 72 1 = t) (h0 : 0 ≤ V t 1) (hG : RG Jm Rm X r) (hS : RSP t d s V2 X P) (hWX : WJ X (W 0 11) (P ++ PO)) (hP : ∀ p ∈ P, 11 ≤ p.1 ∧ p.1 < m ∧ V t 1 ≤ p.2) (hK : KM (W 0 11) W X) (hKX : KX t V V2) (hlt : W 0 5 < X 0 5) (h38 : 12 ≤ m → ¬ sgnZ X = 38) (hJ : LJ t m V V2 j P PO) (hc : ¬ sgnZ X = c)
    (hx : (rdb (R 72 1) fun t112 => calUX (fun i k : Nat => (t112 ≤ i ∧ i ≤ t112 + 4)) V2 (f_r_land t112 j V2 J R) fun V113 => rtn (1, V113)) (a, U)) : a = 1 ∧ LVc (m + 1) d t s V W Jm U Rm r := by
  have tn := tx_ne ht
  have hm1 : m = 11 ∨ m = 12 := by omega
  obtain ⟨s1, s2, s3, s4, s5, s6⟩ := hS
  have sp := s1.2.2.1
  have c1 := s2.1
  have c2 := s2.2.1
  obtain ⟨t0, et0, hx⟩ := rdb_g hx
  rw [hR] at et0
  subst et0
  obtain ⟨V3, h3, -, hx⟩ := hx
  simp only [rtn, Prod.mk.injEq] at hx
  obtain ⟨rfl, rfl⟩ := hx
  obtain ⟨l1, l2, l3, l4⟩ := hJ.land hm1 s2 h0 ⟨by omega, by omega⟩ rfl rfl h3
  have l72 := l4 72 tn.1.2.symm
  refine ⟨rfl, X, P ++ PO, hG, ⟨s1.to (by rw [l72]; exact s1.1) (by rw [l72]) rfl (by omega) (l4 58 tn.2.2.2.1.symm) (l4 59 tn.2.2.2.2.symm) rfl, l1, by rw [l72]; exact s3, s4, s5, by rw [l3]; exact s6⟩, hWX, hJ.all hm1 hP, hK, hKX.tr ⟨fun i i1 i2 i3 => l4 i i3, fun k hk => by rw [l3], by rw [l72]⟩, hlt, fun _ => ?_, fun _ => ?_, l2⟩
  · rcases hm with ⟨m1, m2⟩ | ⟨m1, m2⟩
    · rw [← m2]; exact hc
    · exact h38 (by omega)
  · rcases hm with ⟨m1, m2⟩ | ⟨m1, m2⟩
    · omega
    · rw [← m2]; exact hc
/-- the part goes on: a jump, on both sides -/
theorem LV.fwd {m c d s j j2 : Int} {t : Nat} {V W Jm J V2 X Vb V5 : Nat → Nat → Int} {R Rm : Nat → Nat → Nat} {r : Int × (Nat → Nat → Int)} {P PO : List (Int × Int)} (hm : (m = 11 ∧ c = 38) ∨ (m = 12 ∧ c = 124)) (ht : isTx t) (h0 : 0 ≤ V t 1) (hb : 1 ≤ W 0 11) (htop : ¬ (11 ≤ iDiv (X 6 (W 0 11 - 1).toNat) 1048576 ∧ iDiv (X 6 (W 0 11 - 1).toNat) 1048576 ≤ m)) (hG : RG Jm Rm X r) (hS : RSP t d s V2 X P) (hWX : WJ X (W 0 11) (P ++ PO)) (hP : ∀ p ∈ P, 11 ≤ p.1 ∧ p.1 < m ∧ V t 1 ≤ p.2) (hK : KM (W 0 11) W X) (hKX : KX t V V2) (hJ : LJ t m V V2 j P PO) (hc : sgnZ X = c) (hVb : Vb = up2 V2 72 2 (X 0 5 + 1)) (h5 : f_r_jump t j m Vb J R (j2, V5)) :
    ∃ Y : Nat → Nat → Int, RCz Jm Rm Y r ∧ RS1 t d s V5 Y [] ∧ TOP m Y ∧ KM (W 0 11) W Y ∧ KX t V V5 ∧ Y 0 11 = W 0 11 + 1 ∧ Y 0 5 = X 0 5 + 1 ∧ Y 6 (W 0 11).toNat = 1048576 * m + j2 ∧ V5 t 1 = j2 + 1 ∧ V5 (t + 1) j2.toNat = m + 16 * 0 ∧ V t 1 ≤ j2 ∧ (∀ k : Nat, (k : Int) < V t 1 → V5 (t + 1) k = V (t + 1) k) ∧ CG (V5 (t + 1)) (V t 1) j2 := by
  have tn := tx_ne ht
  have hm1 : m = 11 ∨ m = 12 := by omega
  have hlm : 2 ≤ m ∧ m ≤ 12 := by omega
  obtain ⟨s1, s2, s3, s4, s5, s6⟩ := hS
  have sp := s1.2.2.1
  have c1 := s2.1
  have c2 := s2.2.1
  have hltX : X 0 5 < X 0 6 := sgn_lt (by omega)
  have all1 := hJ.all hm1 hP
  obtain ⟨V3, k1, k2, k3⟩ := q_jump h5
  obtain ⟨l1, l2, l3, l4⟩ := hJ.land hm1 s2 h0 ⟨by omega, by omega⟩ (by rw [hVb, up2_c _ _ tn.1.1]) (by rw [hVb, up2_c _ _ tn.1.2]) k1
  have V3t : V3 t 1 = V2 t 1 := by rw [l3]
  have hp5 := q_put k2 (by omega) (by decide) (by omega)
  obtain ⟨Y, ⟨nY, hY⟩, hY2⟩ := hG.jmp (o := m) (by omega)
  obtain ⟨y1, y2, y3, y4, y5⟩ := landed (t := t) hm1 (by omega) (P ++ PO) nY X Y l1 hWX (fun p hp => by have := all1 p hp; omega) hb htop hY
  have hRC := hY2 (sgn_eq (y4 5 (by decide)) (y4 6 (by decide)) (y5 4 (by decide) (by decide)))
  obtain ⟨v1, v2, v3, v4, v5, v6, v7⟩ := jmpd_v Y m
  have y05 := y4 5 (by decide)
  have y010 := y4 10 (by decide)
  have V5t : V5 t 1 = V2 t 1 + 1 := by rw [hp5, up2_s, V3t]
  have V5o : ∀ k : Nat, ¬ k = (V2 t 1).toNat → V5 (t + 1) k = V3 (t + 1) k := fun k hk => by rw [hp5, up2_n _ _ (Or.inl (by omega)), V3t, up2_n _ _ (Or.inr hk)]
  have V5r : ∀ i : Nat, i ≠ t → i ≠ t + 1 → V5 i = Vb i := fun i i1 i2 => by rw [hp5, up2_c _ _ i1, up2_c _ _ i2, l4 i i2]
  have V5j : V5 (t + 1) (V2 t 1).toNat = m + 16 * 0 := by rw [hp5, up2_n _ _ (Or.inl (by omega)), V3t, up2_s]
  have V572 : ∀ k : Nat, k ≠ 2 → V5 72 k = V2 72 k := fun k hk => by rw [V5r 72 tn.1.1.symm tn.1.2.symm, hVb, up2_n _ _ (Or.inr hk)]
  have ej2 : j2 = V2 t 1 := by omega
  have lcg := l2.2.2.1
  refine ⟨jmpd Y m, hRC, ⟨s1.to ?_ (V572 3 (by decide)) ?_ ?_ ?_ ?_ ?_, ?_, by rw [V572 4 (by decide)]; exact s3, by rw [v4 9 (by decide) (by decide) (by decide), y4 9 (by decide)]; exact s4, s5, ?_⟩, ⟨by omega, ?_⟩, ?_, ?_, by omega, by omega, ?_, by omega, by rw [ej2]; exact V5j, by omega, fun k hk => ?_, ?_⟩
  · rw [V5r 72 tn.1.1.symm tn.1.2.symm, hVb, up2_s, v1, y05]
  · rw [v4 6 (by decide) (by decide) (by decide), y4 6 (by decide)]
  · omega
  · rw [V5r 58 tn.2.1.symm tn.2.2.2.1.symm, hVb, up2_c _ _ (by decide)]
  · rw [V5r 59 tn.2.2.1.symm tn.2.2.2.2.symm, hVb, up2_c _ _ (by decide)]
  · rw [v7 4 (by decide) (by decide) (by decide), y5 4 (by decide) (by decide)]
  · rw [hp5]
    exact y1.ca.both (by rw [show m + 16 * 0 = m by omega]; exact stw_op hlm) v2 v5
  · omega
  · have : wtop (jmpd Y m) = m := by
      unfold wtop
      rw [v3, y2, if_neg (by omega), show (W 0 11 + 1 - 1).toNat = (W 0 11).toNat by omega, v6, y2, if_pos rfl]
      exact (iDiv_p (by omega) (by decide)).trans (by omega)
    omega
  · exact hK.tr ⟨fun k hk => by rw [v6, if_neg (by omega), y3], fun i i1 i2 i3 => (v7 i i1 i2 i3).trans (y5 i i1 i2), (v4 6 (by decide) (by decide) (by decide)).trans (y4 6 (by decide)), (v4 12 (by decide) (by decide) (by decide)).trans (y4 12 (by decide)), (v4 4 (by decide) (by decide) (by decide)).trans (y4 4 (by decide))⟩ (Int.le_refl _)
  · exact hKX.tr ⟨fun i i1 i2 i3 => by rw [V5r i i2 i3, hVb, up2_c _ _ i1], fun k hk => by rw [hp5, up2_n _ _ (Or.inr hk), up2_n _ _ (Or.inl (by omega)), l3], V572 3 (by decide)⟩
  · rw [v6, y2, if_pos rfl]
    omega
  · rw [V5o k (by omega)]
    exact l2.1 k hk
  · have := l2.2
    rw [V3t] at this
    rw [ej2]
    exact this.cg fun k k1 k2 => V5o k (by omega)
/-- behind the part's next piece -/
theorem WJ.app {X : Nat → Nat → Int} {b m j : Int} {P : List (Int × Int)} (h : WJ X (b + 1) P) (hb : 0 ≤ b) (e : X 6 b.toNat = 1048576 * m + j) : WJ X b (P ++ [(m, j)]) := by
  obtain ⟨w1, w2, w3⟩ := h
  refine ⟨hb, by rw [w2]; simp only [List.length_append, List.length_cons, List.length_nil, Int.natCast_add]; omega, fun k hk => ?_⟩
  simp only [List.length_append, List.length_cons, List.length_nil] at hk
  by_cases g : k < P.length
  · rw [w3 k g, List.getD_eq_getElem?_getD, List.getD_eq_getElem?_getD, List.getElem?_append_left g]
  · have ek : k = P.length := by omega
    have e1 : (P ++ [(m, j)]).getD k (0, 0) = (m, j) := by
      rw [ek, List.getD_eq_getElem?_getD, List.getElem?_append_right (Nat.le_refl _)]; simp
    rw [e1, show (X 0 11).toNat - 1 - k = b.toNat by omega, e]
theorem LV.of {m c d : Int} {sub : ((Nat → Nat → Int) → (Nat → Nat → Int) → (Nat → Nat → Nat) → Int × (Nat → Nat → Int) → Prop)} (hF : LV m d sub) (hm : (m = 11 ∧ c = 38) ∨ (m = 12 ∧ c = 124)) (hd : 0 ≤ d ∧ d ≤ 6) : LV (m + 1) d (prtX c m sub) := by
  intro t s a V W J Jm U R Rm r ht hR hS hT hx hmm
  have hV0 : 0 ≤ V t 1 := by have := hS.2.1.2.1; have := hS.2.1.1; simp only [List.length_nil] at *; omega
  have hb := hT.1
  have htop : ∀ X : Nat → Nat → Int, KM (W 0 11) W X → ¬ (11 ≤ iDiv (X 6 (W 0 11 - 1).toNat) 1048576 ∧ iDiv (X 6 (W 0 11 - 1).toNat) 1048576 ≤ m) := fun X k => by
    rw [k.1 _ (by omega)]
    have h2 := hT.2.1
    unfold wtop at h2
    rw [if_neg (by omega)] at h2
    omega
  show (a = 1 ∧ LVc (m + 1) d t s V W Jm U Rm r) ∨ BAD a U r
  unfold prtX at hx
  obtain ⟨z1, V1, h1, -, z1r, hx⟩ := hx
  rcases hF t s z1 V W J Jm V1 R Rm r ht hR hS ⟨hb, by have := hT.2.1; omega, hT.2.2⟩ h1 hmm with ⟨f1, X1, P1, f2, f3, f4, f5, f6, f7, f8, f9, f10, f11⟩ | hbad
  · rw [if_pos (by omega)] at hx
    obtain ⟨bT, hbT, hx⟩ := lop3_g hx
    have key : ∀ (n i : Nat) (j : Int) (V2 X : Nat → Nat → Int) (P PO : List (Int × Int)), (i : Int) ≤ X 0 5 → RG Jm Rm X r → RSP t d s V2 X P → WJ X (W 0 11) (P ++ PO) → (∀ p ∈ P, 11 ≤ p.1 ∧ p.1 < m ∧ V t 1 ≤ p.2) → KM (W 0 11) W X → KX t V V2 → W 0 5 < X 0 5 → (12 ≤ m → ¬ sgnZ X = 38) → LJ t m V V2 j P PO →
        lop3 n bT (i : Int) j V2 (a, U) → (a = 1 ∧ LVc (m + 1) d t s V W Jm U Rm r) ∨ BAD a U r := by
      intro n
      induction n with
      | zero => intro i j V2 X P PO _ _ _ _ _ _ _ _ _ _ hx; exact False.elim hx
      | succ n ih =>
        intro i j V2 X P PO hi hG hS2 hWX hP hK hKX hlt h38 hJ hx
        have s1 := hS2.1
        have sp := s1.2.2.1
        rw [lop3_s hbT] at hx
        by_cases g200 : (200 : Int) ≤ i
        · rw [if_pos g200] at hx
          refine Or.inl (LV.stop hm ht hR hV0 hG hS2 hWX hP hK hKX hlt h38 hJ ?_ hx)
          have e : sgnZ X = -1 := by
            unfold sgnZ
            rw [if_pos (by omega)]
          omega
        · rw [if_neg g200] at hx
          obtain ⟨q, hq, hx⟩ := hx
          have hq := q_peek s1 hq
          subst hq
          by_cases gc : sgnZ X = c
          · rw [if_neg (fun hh => hh gc)] at hx
            have hltX : X 0 5 < X 0 6 := sgn_lt (by omega)
            obtain ⟨z118, e118, hx⟩ := rdb_g hx
            obtain ⟨z119, e119, hx⟩ := rdb_g hx
            obtain ⟨Vb, eb, hx⟩ := rdb_g hx
            obtain ⟨t0, et0, hx⟩ := rdb_g hx
            rw [hR] at et0
            subst et0
            obtain ⟨j2, V5, h5, -, hx⟩ := hx
            obtain ⟨z123, V6, h6, -, z123r, hx⟩ := hx
            rw [← e118, s1.1, wr_id ⟨by omega, by omega⟩] at e119
            have hVb : Vb = up2 V2 72 2 (X 0 5 + 1) := by rw [← eb, ← e119]
            obtain ⟨Y, y1, y2, y3, y4, y5, y6, y7, y8, y9, y10, y11, y12, y13⟩ := LV.fwd hm ht hV0 hb (htop X hK) hG hS2 hWX hP hK hKX hJ gc hVb h5
            rcases hF t s z123 V5 Y J Jm V6 R Rm r ht hR y2 y3 h6 y1 with ⟨g1, X3, P3, g2, g3, g4, g5, g6, g7, g8, g9, g10, g11⟩ | hbad
            · rw [if_pos (by omega)] at hx
              rw [y6] at g4 g6
              have gcg := g11.2
              have gpr := g11.1
              rw [y9] at gcg gpr
              refine ih (i + 1) j2 V6 X3 P3 [(m, j2)] (by omega) g2 g3 (g4.app (by omega) (by rw [g6.1 _ (by omega)]; exact y8)) (fun p hp => ?_) (y4.tr g6 (by omega)) (y5.tr g7) (by omega) g9 (Or.inr ⟨y11, ?_, rfl, ?_, fun p hp => ?_, fun k hk => ?_, ?_, gcg⟩) (by rw [Int.natCast_add]; exact hx)
              · have := g5 p hp
                omega
              · have := gcg.2.1
                omega
              · rw [gpr _ (by omega)]; exact y10
              · have := g5 p hp
                omega
              · rw [gpr k (by omega)]
                exact y12 k hk
              · exact y13.cg fun k k1 k2 => gpr k (by omega)
            · rw [if_neg (by have := hbad.1; omega)] at hx
              simp only [rtn, Prod.mk.injEq] at hx
              obtain ⟨rfl, rfl⟩ := hx
              exact Or.inr ⟨rfl, hbad.2⟩
          · rw [if_pos gc] at hx
            exact Or.inl (LV.stop hm ht hR hV0 hG hS2 hWX hP hK hKX hlt h38 hJ gc hx)
    exact key 202 0 (-1) V1 X1 P1 [] (by have := f3.1.2.2.1; omega) f2 f3 (by rw [List.append_nil]; exact f4) f5 f6 f7 f8 f9 (Or.inl ⟨rfl, rfl, f11⟩) hx
  · rw [if_neg (by have := hbad.1; omega)] at hx
    simp only [rtn, Prod.mk.injEq] at hx
    obtain ⟨rfl, rfl⟩ := hx
    exact Or.inr ⟨rfl, hbad.2⟩
