-- the landing on both sides; what a person gives (own work)
def RPl (c k N : Nat → Int) (l : Nat) : Prop :=
  c 0 = bt (N 76) l ∧ c 1 = N l ∧ c 2 = N (4 + l) ∧ c 3 = N (8 + l) ∧ c 4 = N (12 + l) ∧ c 5 = N (16 + l) ∧ (∀ j : Nat, j < 7 → k j = N (24 + 7 * l + j)) ∧
  (c 0 = 1 → (c 6 = 0 ∧ N (20 + l) = -2) ∨ (c 6 = 1 ∧ c 7 = -1 ∧ N (20 + l) = -3) ∨ (c 6 = 1 ∧ 0 ≤ c 7 ∧ N (20 + l) = c 7)) ∧
  (bt (N 77) l = 1 ↔ dedX c) ∧ (0 ≤ c 1 ∧ c 1 ≤ 24) ∧ (0 ≤ c 2 ∧ c 2 ≤ 24) ∧ (0 ≤ c 3 ∧ c 3 ≤ 9) ∧ (0 ≤ c 4 ∧ c 4 ≤ 9) ∧ (0 ≤ c 5 ∧ c 5 ≤ 9)
def RPe (c N : Nat → Int) (p : Nat) : Prop := c 0 = bt (N 78) p ∧ c 1 = N (52 + p) ∧ c 2 = N (60 + p) ∧ c 3 = N (68 + p)
def RLz (b : Nat) (V : Nat → Nat → Int) (N : Nat → Int) : Prop :=
  (∀ l : Nat, l < 4 → RPl (V (b + 3 + 2 * l)) (V (b + 3 + 2 * l + 1)) N l) ∧ (∀ p : Nat, p < 8 → RPe (V (b + 11 + p)) N p) ∧ V b 2 = cnt (N 78) ∧ V b 3 = N 79 ∧ V b 4 = N 80 ∧
  (0 ≤ N 76 ∧ N 76 < 16) ∧ (0 ≤ N 77 ∧ N 77 < 16) ∧ (0 ≤ N 78 ∧ N 78 < 256) ∧ 0 ≤ N 79 ∧ (0 ≤ N 80 ∧ N 80 ≤ 65535)
theorem RPl.cg {c k N c2 k2 N2 : Nat → Int} {l : Nat} (h : RPl c k N l) (hc : c2 = c) (hk : k2 = k) (hN : ∀ j : Nat, (j = l ∨ j = 4 + l ∨ j = 8 + l ∨ j = 12 + l ∨ j = 16 + l ∨ j = 20 + l ∨ (24 + 7 * l ≤ j ∧ j < 31 + 7 * l)) → N2 j = N j) (h76 : bt (N2 76) l = bt (N 76) l) (h77 : bt (N2 77) l = bt (N 77) l) : RPl c2 k2 N2 l := by
  subst hc hk
  unfold RPl at h ⊢
  rw [h76, h77, hN l (by omega), hN (4 + l) (by omega), hN (8 + l) (by omega), hN (12 + l) (by omega), hN (16 + l) (by omega), hN (20 + l) (by omega)]
  refine ⟨h.1, h.2.1, h.2.2.1, h.2.2.2.1, h.2.2.2.2.1, h.2.2.2.2.2.1, fun j hj => ?_, h.2.2.2.2.2.2.2⟩
  rw [hN _ (by omega)]
  exact h.2.2.2.2.2.2.1 j hj
theorem RPe.cg {c N c2 N2 : Nat → Int} {p : Nat} (h : RPe c N p) (hc : c2 = c) (hN : ∀ j : Nat, (j = 52 + p ∨ j = 60 + p ∨ j = 68 + p) → N2 j = N j) (h78 : N2 78 = N 78) : RPe c2 N2 p := by
  subst hc
  unfold RPe at h ⊢
  rw [h78, hN (52 + p) (by omega), hN (60 + p) (by omega), hN (68 + p) (by omega)]
  exact h
/-- texts on both sides -/
def RTx (Rx : Nat → Nat → Nat) (Vx Vm : Nat → Nat → Int) : Prop := (isTx (Rx 60 0) ∧ RTz (Rx 60 0) 0 Vx Vm) ∧ ∀ k : Nat, k < 4 → isTx (Rx 66 k) ∧ RTz (Rx 66 k) (k + 1) Vx Vm
theorem isTx_b {t : Nat} (h : isTx t) : 61 ≤ t ∧ t + 4 ≤ 97 ∧ (t + 4 ≤ 65 ∨ 73 ≤ t) := by rcases h with rfl | rfl | rfl | rfl | rfl | rfl <;> decide
theorem RTx.cg {Rx : Nat → Nat → Nat} {Vx Vm Ux Um : Nat → Nat → Int} (h : RTx Rx Vx Vm) (hx : ∀ i : Nat, 61 ≤ i → i ≤ 97 → (i ≤ 65 ∨ 73 ≤ i) → Ux i = Vx i) (hm : ∀ i : Nat, 11 ≤ i → i ≤ 16 → Um i = Vm i) : RTx Rx Ux Um := by
  have go : ∀ t tx : Nat, isTx t → RTz t tx Vx Vm → RTz t tx Ux Um := fun t tx ht hr => by
    have hb := isTx_b ht
    exact hr.cg (fun i k h1 h2 => by rw [hx i (by omega) (by omega) (by omega)]) (fun i k h1 h2 => by rw [hm i h1 h2])
  exact ⟨⟨h.1.1, go _ _ h.1.1 h.1.2⟩, fun k hk => ⟨(h.2 k hk).1, go _ _ (h.2 k hk).1 (h.2 k hk).2⟩⟩
theorem RPl.ag {c k N : Nat → Int} {l : Nat} (h : RPl c k N l) (ht : c 0 = 1) (d : Int) : agX c d = agM (N (20 + l)) d := by
  unfold agX agM
  rcases h.2.2.2.2.2.2.2.1 ht with ⟨h1, h2⟩ | ⟨h1, h2, h3⟩ | ⟨h1, h2, h3⟩
  · rw [if_pos h1, h2, if_neg (by decide)]
  · rw [if_neg (by rw [h1]; decide), if_pos h2, h3, if_neg (by decide)]
  · rw [if_neg (by rw [h1]; decide), if_neg (by omega), h3, if_pos h2]
/-- what is felt is the same -/
theorem felt {b l : Nat} {V N : Nat → Nat → Int} {f F : Nat → Int} {d n p t q : Int} {c k : Nat → Int} (hf : f = byX (ofX (dyX (V 70) d n) l c k d) p t q) (hP : RPl c k (N 1) l) (ht : c 0 = 1) (hd : d = N 1 79) (hn : n = cnt (N 1 78))
    (h0 : F 0 = N 1 79 ∧ F 1 = iRem (N 1 79) 7 ∧ F 10 = cnt (N 1 78)) (h1 : F 2 = l ∧ F 3 = N 1 l ∧ F 4 = N 1 (4 + l) ∧ F 5 = N 1 (30 + 7 * l) ∧ F 6 = N 1 (12 + l) ∧ F 7 = N 1 (16 + l) ∧ F 11 = agM (N 1 (20 + l)) (N 1 79)) (h2 : F 8 = p ∧ F 9 = t ∧ F 12 = q) : ∀ i : Nat, i < 13 → f (fc i) = F i := by
  have hag := hP.ag ht d
  obtain ⟨p0, p1, p2, p3, p4, p5, p6, -⟩ := hP
  have e6 := p6 6 (by decide)
  rw [show 24 + 7 * l + 6 = 30 + 7 * l by omega] at e6
  intro i hi
  subst hf
  rcases (show i = 0 ∨ i = 1 ∨ i = 2 ∨ i = 3 ∨ i = 4 ∨ i = 5 ∨ i = 6 ∨ i = 7 ∨ i = 8 ∨ i = 9 ∨ i = 10 ∨ i = 11 ∨ i = 12 by omega) with rfl | rfl | rfl | rfl | rfl | rfl | rfl | rfl | rfl | rfl | rfl | rfl | rfl
  · show d = F 0; rw [h0.1]; exact hd
  · show iRem d 7 = F 1; rw [h0.2.1, hd]
  · show (l : Int) = F 2; exact h1.1.symm
  · show c 1 = F 3; rw [h1.2.1]; exact p1
  · show c 2 = F 4; rw [h1.2.2.1]; exact p2
  · show k 6 = F 5; rw [h1.2.2.2.1]; exact e6
  · show c 4 = F 6; rw [h1.2.2.2.2.1]; exact p4
  · show c 5 = F 7; rw [h1.2.2.2.2.2.1]; exact p5
  · show p = F 8; exact h2.1.symm
  · show t = F 9; exact h2.2.1.symm
  · show n = F 10; rw [h0.2.2]; exact hn
  · show agX c d = F 11; rw [h1.2.2.2.2.2.2, hag, hd]
  · show q = F 12; exact h2.2.2.symm
theorem q_sWet {c : Nat} {x a : Int} {V J U : Nat → Nat → Int} {R : Nat → Nat → Nat} (h : f_s_wetBy c x V J R (a, U)) (hw : 0 ≤ V c 2 ∧ V c 2 ≤ 24) (hp : 0 ≤ V c 1 ∧ V c 1 ≤ 24) (hx : 0 ≤ x ∧ x ≤ 999) : a = V c 2 + x - min (V c 2 + x) (V c 1) ∧ U = up2 V c 2 (min (V c 2 + x) (V c 1)) := by
  simp only [f_s_wetBy, rdb, rtn, Prod.mk.injEq] at h
  rw [wr_id (z := V c 2 + x) ⟨by omega, by omega⟩] at h
  rw [wr_id ⟨by omega, by omega⟩] at h
  exact h
theorem isLa_b {b : Nat} (h : isLa b) : 1 ≤ b ∧ b ≤ 39 := by rcases h with rfl | rfl | rfl <;> decide
theorem d_gift {b : Nat} {p l a z : Int} {Vx Jx Vm Jm Ux Um : Nat → Nat → Int} {Rx Rm : Nat → Nat → Nat} (hb : isLa b) (hp : 0 ≤ p ∧ p < 8) (hl : 0 ≤ l ∧ l < 4) (hR : RLz b Vx (Vm 1)) (hT : RTx Rx Vx Vm) (ht : Vx (b + 3 + 2 * l.toNat) 0 = 1)
    (hx : f_s_gift b p l Vx Jx Rx (a, Ux)) (hm : f_m_cupsOf p l Vm Jm Rm (z, Um)) : a = z ∧ (0 ≤ a ∧ a ≤ 999) ∧ (∀ i : Nat, i ≠ 69 → i ≠ 70 → i ≠ 71 → Ux i = Vx i) ∧ ∀ i : Nat, i ≠ 17 → i ≠ 18 → Um i = Vm i := by
  have bb := isLa_b hb
  simp only [f_s_gift, rdb, Nat.one_mul] at hx
  obtain ⟨V4, h4, -, V7, h7, -, V10, h10, -, -, a2, V13, h13, B13, ar, hx⟩ := hx
  simp only [rtn, Prod.mk.injEq] at hx
  obtain ⟨rfl, rfl⟩ := hx
  obtain ⟨e4, r4⟩ := q_onDay h4
  obtain ⟨e7, r7⟩ := q_of h7 (by omega)
  obtain ⟨e10, r10⟩ := q_by h10
  simp only [f_m_cupsOf, rdb] at hm
  obtain ⟨V1, h1, -, mr, z2, V8, h8, -, -, hm⟩ := hm
  simp only [rtn, Prod.mk.injEq] at hm
  obtain ⟨rfl, rfl⟩ := hm
  obtain ⟨m1, m2, m3, m4⟩ := q_feelsPlant h1 hl
  have c1 : (1 : Nat) ≠ 18 := by decide
  simp only [up2_c _ _ c1, m1 1 c1] at h8 mr
  rw [show (p + 52).toNat = 52 + p.toNat by omega, show (p + 68).toNat = 68 + p.toNat by omega, show (p + 60).toNat = 60 + p.toNat by omega] at h8
  rw [show (p + 60).toNat = 60 + p.toNat by omega] at mr
  obtain ⟨hPl, hPe, hn, hd, -⟩ := hR
  have hpl := hPl l.toNat (by omega)
  have hpe := hPe p.toNat (by omega)
  have k4 : V4 b = Vx b := r4 b (by omega)
  have k4c : V4 (b + 3 + 2 * l.toNat) = Vx (b + 3 + 2 * l.toNat) := r4 _ (by omega)
  have k4k : V4 (b + 3 + 2 * l.toNat + 1) = Vx (b + 3 + 2 * l.toNat + 1) := r4 _ (by omega)
  have k7 : V7 (b + 11 + p.toNat) = Vx (b + 11 + p.toNat) := by rw [r7 _ (by omega), r4 _ (by omega)]
  have k10 : V10 (b + 11 + p.toNat) = Vx (b + 11 + p.toNat) := by rw [r10 _ (by omega)]; exact k7
  rw [k4, k4c, k4k, e4] at e7
  rw [k7, e7] at e10
  have hrule : Vx (b + 11 + p.toNat) 2 = Vm 1 (60 + p.toNat) := hpe.2.2.1
  rw [k10, hrule] at h13
  have hxr : ∀ i : Nat, i ≠ 70 → V10 i = Vx i := fun i hi => by rw [r10 i hi, r7 i hi, r4 i hi]
  have hmr : ∀ i : Nat, i ≠ 18 → up2 (up2 (up2 V1 18 8 p) 18 9 (Vm 1 (52 + p.toNat))) 18 12 (Vm 1 (68 + p.toNat)) i = Vm i := fun i hi => by rw [up2_c _ _ hi, up2_c _ _ hi, up2_c _ _ hi]; exact m1 i hi
  have hT2 := hT.cg (Ux := V10) (Um := up2 (up2 (up2 V1 18 8 p) 18 9 (Vm 1 (52 + p.toNat))) 18 12 (Vm 1 (68 + p.toNat))) (fun i h1 h2 h3 => hxr i (by omega)) (fun i h1 h2 => hmr i (by omega))
  have hrr := hT2.2 (Vm 1 (60 + p.toNat)).toNat (by omega)
  rw [show Vm 1 (60 + p.toNat) + 1 = (((Vm 1 (60 + p.toNat)).toNat + 1 : Nat) : Int) by omega] at h8
  have hRF : RF V10 (up2 (up2 (up2 V1 18 8 p) 18 9 (Vm 1 (52 + p.toNat))) 18 12 (Vm 1 (68 + p.toNat))) := by
    have hlc : l = ((l.toNat : Nat) : Int) := by omega
    refine felt (b := b) (l := l.toNat) (V := Vx) (N := Vm) (f := V10 70) (F := up2 (up2 (up2 V1 18 8 p) 18 9 (Vm 1 (52 + p.toNat))) 18 12 (Vm 1 (68 + p.toNat)) 18) (d := Vx b 3) (n := Vx b 2) (p := p) (t := Vx (b + 11 + p.toNat) 1) (q := Vx (b + 11 + p.toNat) 3) (c := Vx (b + 3 + 2 * l.toNat)) (k := Vx (b + 3 + 2 * l.toNat + 1)) (by rw [← hlc]; exact e10) hpl ht hd hn ?_ ?_ ?_
    · rw [up2_n _ _ (Or.inr (by decide)), up2_n _ _ (Or.inr (by decide)), up2_n _ _ (Or.inr (by decide)), up2_n _ _ (Or.inr (by decide)), up2_n _ _ (Or.inr (by decide)), up2_n _ _ (Or.inr (by decide)), up2_n _ _ (Or.inr (by decide)), up2_n _ _ (Or.inr (by decide)), up2_n _ _ (Or.inr (by decide))]
      exact m2
    · have g : ∀ k : Nat, k ≠ 8 → k ≠ 9 → k ≠ 12 → up2 (up2 (up2 V1 18 8 p) 18 9 (Vm 1 (52 + p.toNat))) 18 12 (Vm 1 (68 + p.toNat)) 18 k = V1 18 k := fun k k1 k2 k3 => by rw [up2_n _ _ (Or.inr k3), up2_n _ _ (Or.inr k2), up2_n _ _ (Or.inr k1)]
      rw [g 2 (by decide) (by decide) (by decide), g 3 (by decide) (by decide) (by decide), g 4 (by decide) (by decide) (by decide), g 5 (by decide) (by decide) (by decide), g 6 (by decide) (by decide) (by decide), g 7 (by decide) (by decide) (by decide), g 11 (by decide) (by decide) (by decide), ← hlc]
      exact m3
    · refine ⟨?_, ?_, ?_⟩
      · rw [up2_n _ _ (Or.inr (by decide)), up2_n _ _ (Or.inr (by decide)), up2_s]
      · rw [up2_n _ _ (Or.inr (by decide)), up2_s]; exact hpe.2.1.symm
      · rw [up2_s]; exact hpe.2.2.2.symm
  obtain ⟨g1, g2, g3⟩ := q_ask hrr.1 (by omega) hrr.2 hRF (by decide) h13 h8
  refine ⟨g1, ar, fun i i1 i2 i3 => ?_, fun i i1 i2 => ?_⟩
  · exact (B13.row (i := i) (fun k hk => by omega)).trans (hxr i i2)
  · exact (g3 i i1).trans (hmr i i2)
theorem d_giftN {b p l : Nat} {a z : Int} {Vx Jx Vm Jm Ux Um : Nat → Nat → Int} {Rx Rm : Nat → Nat → Nat} (hb : isLa b) (hp : p < 8) (hl : l < 4) (hR : RLz b Vx (Vm 1)) (hT : RTx Rx Vx Vm) (ht : Vx (b + 3 + 2 * l) 0 = 1)
    (hx : f_s_gift b p l Vx Jx Rx (a, Ux)) (hm : f_m_cupsOf p l Vm Jm Rm (z, Um)) : a = z ∧ (0 ≤ a ∧ a ≤ 999) ∧ (∀ i : Nat, i ≠ 69 → i ≠ 70 → i ≠ 71 → Ux i = Vx i) ∧ ∀ i : Nat, i ≠ 17 → i ≠ 18 → Um i = Vm i :=
  d_gift hb ⟨by omega, by omega⟩ ⟨by omega, by omega⟩ hR hT (by rw [Int.toNat_natCast]; exact ht) hx hm
def RD (b : Nat) (Vx Vm : Nat → Nat → Int) : Prop := RLz b Vx (Vm 1) ∧ Vx b 5 = Vm 0 27 ∧ Vx b 6 = Vm 0 28 ∧ Vx b 7 = Vm 0 29
theorem up1_at {f : Nat → Int} {k : Nat} {v : Int} : up1 f k v k = v := by simp [up1]
theorem up1_of {f : Nat → Int} {k j : Nat} {v : Int} (h : j ≠ k) : up1 f k v j = f j := by simp [up1, h]
theorem d_giveL {b p l : Nat} {Vx Jx Vm Jm Ux Um : Nat → Nat → Int} {Rx Rm : Nat → Nat → Nat} (hb : isLa b) (hp : p < 8) (hl : l < 4) (hD : RLz b Vx (Vm 1)) (hT : RTx Rx Vx Vm) (hpt : bt (Vm 1 78) p = 1) (h76 : bt (Vm 1 76) l = 1) (h77 : ¬ bt (Vm 1 77) l = 1)
    (hx : f_s_giveTo b p l Vx Jx Rx Ux) (hm : f_m_waters p l Vm Jm Rm Um) : RLz b Ux (Um 1) ∧ ((Vx b 5 = Vm 0 27 → Ux b 5 = Um 0 27) ∧ (Vx b 6 = Vm 0 28 → Ux b 6 = Um 0 28) ∧ (Vx b 7 = Vm 0 29 → Ux b 7 = Um 0 29)) ∧ RTx Rx Ux Um ∧ Um 1 78 = Vm 1 78 ∧ Um 1 79 = Vm 1 79 := by
  have bb := isLa_b hb
  have hR := hD
  have hR0 := hR
  obtain ⟨hPl, hPe, hn, hd, hx4, hs76, hs77, hs78, h79, h80⟩ := hR
  have hpl := hPl l hl
  have hpe := hPe p hp
  obtain ⟨p0, p1, p2, p3, p4, p5, p6, p7, p8, p9, p10, p11, p12, p13⟩ := hpl
  have ht : Vx (b + 3 + 2 * l) 0 = 1 := p0.trans h76
  -- the first side
  simp only [f_s_giveTo, rdb, Nat.one_mul, Int.toNat_natCast] at hx
  obtain ⟨z1, h1, -, hx⟩ := hx
  have q1 := q_sPerson h1
  rw [Int.toNat_natCast, hpe.1, hpt] at q1
  rw [if_neg (by unfold Sq at q1; omega)] at hx
  obtain ⟨z4, h4, -, hx⟩ := hx
  have q4 := q_sAlive h4
  rw [Int.toNat_natCast] at q4
  have nd : ¬ dedX (Vx (b + 3 + 2 * l)) := fun h => h77 (p8.mpr h)
  have z4n : ¬ z4 = 0 := by
    rcases q4 with ⟨q, -⟩ | ⟨-, q⟩
    · omega
    · exact absurd ⟨⟨by omega, by omega, by omega⟩, nd⟩ q
  rw [if_pos z4n] at hx
  obtain ⟨g, V8, h8, -, -, hx⟩ := hx
  -- the reference
  unfold f_m_waters at hm
  rw [show ((l : Int) + 4).toNat = 4 + l by omega, show ((p : Int) + 68).toNat = 68 + p by omega, show ((l : Int) + 20).toNat = 20 + l by omega, Int.toNat_natCast, Int.toNat_natCast] at hm
  obtain ⟨g2, W1, hg2, -, -, hm⟩ := hm
  obtain ⟨eg, gr, x8, m1⟩ := d_giftN hb hp hl hR0 hT ht h8 hg2
  subst eg
  rw [m1 1 (by decide) (by decide)] at hm
  obtain ⟨y2, rfl, -, hm⟩ := rdb_g hm
  obtain ⟨y3, rfl, -, hm⟩ := rdb_g hm
  obtain ⟨w, hw, hm⟩ := hm
  obtain ⟨W6, ew6, hm⟩ := rdb_g hm
  obtain ⟨y7, ey7, hm⟩ := rdb_g hm
  obtain ⟨y8, ey8, hm⟩ := rdb_g hm
  obtain ⟨W9, ew9, hm⟩ := rdb_g hm
  obtain ⟨y10, ey10, hm⟩ := rdb_g hm
  obtain ⟨y11, ey11, hm⟩ := rdb_g hm
  obtain ⟨W12, ew12, hm⟩ := rdb_g hm
  obtain ⟨y13, ey13, hm⟩ := rdb_g hm
  obtain ⟨y14, ey14, hm⟩ := rdb_g hm
  obtain ⟨y15, ey15, hm⟩ := rdb_g hm
  obtain ⟨W16, ew16, hm⟩ := rdb_g hm
  obtain ⟨y17, ey17, hm⟩ := rdb_g hm
  obtain ⟨y18, ey18, hm⟩ := rdb_g hm
  obtain ⟨W19, ew19, hm⟩ := rdb_g hm
  have hw := q_min hw
  -- the first side's store
  obtain ⟨zw, V17, h17, -, hx⟩ := hx
  have e8c : V8 (b + 3 + 2 * l) = Vx (b + 3 + 2 * l) := x8 _ (by omega) (by omega) (by omega)
  have e8e : V8 (b + 11 + p) = Vx (b + 11 + p) := x8 _ (by omega) (by omega) (by omega)
  have e8b : V8 b = Vx b := x8 _ (by omega) (by omega) (by omega)
  have e15 : up2 (up2 V8 (b + 11 + p) 3 (wr (V8 (b + 11 + p) 3 + g))) b 5 (wr (up2 V8 (b + 11 + p) 3 (wr (V8 (b + 11 + p) 3 + g)) b 5 + g)) (b + 3 + 2 * l) = Vx (b + 3 + 2 * l) := by rw [up2_c _ _ (by omega), up2_c _ _ (by omega)]; exact e8c
  obtain ⟨k1, k2⟩ := q_sWet h17 (by rw [e15]; exact p10) (by rw [e15]; exact p9) gr
  rw [e15] at k1 k2
  have ew : w = min (Vx (b + 3 + 2 * l) 2 + g) (Vx (b + 3 + 2 * l) 1) := by omega
  rw [← ew] at k1 k2
  have wb : 0 ≤ w ∧ w ≤ 24 := by omega
  generalize hV19 : up2 V17 b 6 _ = V19 at hx
  have xc : V19 (b + 3 + 2 * l) = up1 (Vx (b + 3 + 2 * l)) 2 w := by
    rw [← hV19, up2_c _ _ (by omega), k2, up2_row, e15]
  have xe : V19 (b + 11 + p) = up1 (Vx (b + 11 + p)) 3 (wr (Vx (b + 11 + p) 3 + g)) := by
    rw [← hV19, up2_c _ _ (by omega), k2, up2_c _ _ (by omega), up2_c _ _ (by omega), up2_row, e8e]
  have xb : V19 b = up1 (up1 (Vx b) 5 (wr (Vx b 5 + g))) 6 (wr (Vx b 6 + zw)) := by
    rw [← hV19, up2_row, k2, up2_c _ _ (by omega), up2_row, up2_c _ _ (by omega), e8b, up1_of (by decide)]
  have xo : ∀ i : Nat, i ≠ 69 → i ≠ 70 → i ≠ 71 → i ≠ b + 3 + 2 * l → i ≠ b + 11 + p → i ≠ b → V19 i = Vx i := fun i i1 i2 i3 i4 i5 i6 => by
    rw [← hV19, up2_c _ _ i6, k2, up2_c _ _ i4, up2_c _ _ i6, up2_c _ _ i5]; exact x8 i i1 i2 i3
  -- the reference's store
  have w6 : W6 1 = up1 (Vm 1) (4 + l) w := by rw [← ew6, up2_row, m1 1 (by decide) (by decide)]
  have w6o : ∀ i : Nat, i ≠ 1 → i ≠ 17 → i ≠ 18 → W6 i = Vm i := fun i i1 i2 i3 => by rw [← ew6, up2_c _ _ i1]; exact m1 i i2 i3
  rw [w6, up1_of (by omega)] at ey7
  have w9 : W9 1 = up1 (up1 (Vm 1) (4 + l) w) (68 + p) y8 := by rw [← ew9, up2_row, w6]
  have w9o : ∀ i : Nat, i ≠ 1 → i ≠ 17 → i ≠ 18 → W9 i = Vm i := fun i i1 i2 i3 => by rw [← ew9, up2_c _ _ i1]; exact w6o i i1 i2 i3
  rw [w9o 0 (by decide) (by decide) (by decide)] at ey10
  have w12 : W12 0 = up1 (Vm 0) 27 y11 := by rw [← ew12, up2_row, w9o 0 (by decide) (by decide) (by decide)]
  rw [w12, up1_of (by decide)] at ey13
  have w16 : W16 0 = up1 (up1 (Vm 0) 27 y11) 28 y15 := by rw [← ew16, up2_row, w12]
  have n1 : W19 1 = up1 (up1 (Vm 1) (4 + l) w) (68 + p) (wr (Vm 1 (68 + p) + g)) := by
    rw [← ew19, up2_c _ _ (by decide), ← ew16, up2_c _ _ (by decide), ← ew12, up2_c _ _ (by decide), w9, ← ey8, ← ey7]
  have n0 : W19 0 27 = wr (Vm 0 27 + g) ∧ W19 0 28 = wr (wr (Vm 0 28 + Vm 1 (4 + l) + g) - w) ∧ W19 0 29 = Vm 0 29 := by
    rw [← ew19, up2_c _ _ (by decide), w16, ← ey15, ← ey14, ← ey13, ← ey11, ← ey10]
    exact ⟨rfl, rfl, rfl⟩
  have no : ∀ i : Nat, 2 ≤ i → i ≠ 17 → i ≠ 18 → i ≠ 19 → W19 i = Vm i := fun i i1 i2 i3 i4 => by
    rw [← ew19, up2_c _ _ i4, ← ew16, up2_c _ _ (by omega), ← ew12, up2_c _ _ (by omega)]; exact w9o i (by omega) i2 i3
  have ov : Vx b 6 = Vm 0 28 → wr (Vx b 6 + zw) = wr (wr (Vm 0 28 + Vm 1 (4 + l) + g) - w) := fun d6 => by
    rw [show wr (Vm 0 28 + Vm 1 (4 + l) + g) - w = wr (Vm 0 28 + Vm 1 (4 + l) + g) + (-w) by omega, wr_add, k1, d6, p2]
    congr 1
    omega
  -- with the card or without it
  have fin : ∀ (cX : Nat → Int) (N : Nat → Int), (cX = up1 (Vx (b + 3 + 2 * l)) 2 w ∧ N = up1 (up1 (Vm 1) (4 + l) w) (68 + p) (wr (Vm 1 (68 + p) + g))) ∨ (Vx (b + 3 + 2 * l) 6 = 1 ∧ cX = up1 (up1 (Vx (b + 3 + 2 * l)) 2 w) 7 (Vx b 3) ∧ N = up1 (up1 (up1 (Vm 1) (4 + l) w) (68 + p) (wr (Vm 1 (68 + p) + g))) (20 + l) (Vm 1 79)) → RPl cX (Vx (b + 3 + 2 * l + 1)) N l ∧ (∀ j : Nat, j ≠ 4 + l → j ≠ 68 + p → j ≠ 20 + l → N j = Vm 1 j) ∧ N (68 + p) = wr (Vm 1 (68 + p) + g) := by
    intro cX N h
    have hj : ∀ j : Nat, j ≠ 4 + l → j ≠ 68 + p → j ≠ 20 + l → N j = Vm 1 j := fun j j1 j2 j3 => by
      rcases h with ⟨-, h⟩ | ⟨-, -, h⟩
      · rw [h, up1_of j2, up1_of j1]
      · rw [h, up1_of j3, up1_of j2, up1_of j1]
    have h4 : N (4 + l) = w := by
      rcases h with ⟨-, h⟩ | ⟨-, -, h⟩
      · rw [h, up1_of (by omega), up1_at]
      · rw [h, up1_of (by omega), up1_of (by omega), up1_at]
    have hcx : ∀ k : Nat, k ≠ 2 → k ≠ 7 → cX k = Vx (b + 3 + 2 * l) k := fun k k1 k2 => by
      rcases h with ⟨h, -⟩ | ⟨-, h, -⟩
      · rw [h, up1_of k1]
      · rw [h, up1_of k2, up1_of k1]
    have h2 : cX 2 = w := by
      rcases h with ⟨h, -⟩ | ⟨-, h, -⟩
      · rw [h]; rfl
      · rw [h]; rfl
    refine ⟨?_, hj, ?_⟩
    · unfold RPl dedX
      rw [hcx 0 (by decide) (by decide), hcx 1 (by decide) (by decide), hcx 3 (by decide) (by decide), hcx 4 (by decide) (by decide), hcx 5 (by decide) (by decide), hcx 6 (by decide) (by decide), h2, hj 76 (by omega) (by omega) (by omega), hj 77 (by omega) (by omega) (by omega), hj l (by omega) (by omega) (by omega), h4, hj (8 + l) (by omega) (by omega) (by omega), hj (12 + l) (by omega) (by omega) (by omega), hj (16 + l) (by omega) (by omega) (by omega)]
      refine ⟨p0, p1, rfl, p3, p4, p5, fun j hj7 => ?_, fun hc => ?_, p8, p9, wb, p11, p12, p13⟩
      · rw [hj _ (by omega) (by omega) (by omega)]; exact p6 j hj7
      · rcases h with ⟨hc, hN⟩ | ⟨hc6, hc, hN⟩
        · rw [hN, up1_of (by omega), up1_of (by omega), hc, up1_of (by decide)]
          exact p7 ht
        · rw [hN, up1_at, hc, up1_at, hd]
          exact Or.inr (Or.inr ⟨hc6, h79, rfl⟩)
    · rcases h with ⟨-, h⟩ | ⟨-, -, h⟩
      · rw [h, up1_at]
      · rw [h, up1_of (by omega), up1_at]
  have goal : ∀ U W : Nat → Nat → Int, ((U (b + 3 + 2 * l) = up1 (Vx (b + 3 + 2 * l)) 2 w ∧ W 1 = up1 (up1 (Vm 1) (4 + l) w) (68 + p) (wr (Vm 1 (68 + p) + g))) ∨ (Vx (b + 3 + 2 * l) 6 = 1 ∧ U (b + 3 + 2 * l) = up1 (up1 (Vx (b + 3 + 2 * l)) 2 w) 7 (Vx b 3) ∧ W 1 = up1 (up1 (up1 (Vm 1) (4 + l) w) (68 + p) (wr (Vm 1 (68 + p) + g))) (20 + l) (Vm 1 79))) → (∀ i : Nat, i ≠ b + 3 + 2 * l → U i = V19 i) → (∀ i : Nat, i ≠ 1 → W i = W19 i) → RLz b U (W 1) ∧ ((Vx b 5 = Vm 0 27 → U b 5 = W 0 27) ∧ (Vx b 6 = Vm 0 28 → U b 6 = W 0 28) ∧ (Vx b 7 = Vm 0 29 → U b 7 = W 0 29)) ∧ RTx Rx U W ∧ W 1 78 = Vm 1 78 ∧ W 1 79 = Vm 1 79 := by
    intro U W h hU hW
    obtain ⟨f1, f2, f3⟩ := fin _ _ h
    have ub : U b = up1 (up1 (Vx b) 5 (wr (Vx b 5 + g))) 6 (wr (Vx b 6 + zw)) := (hU b (by omega)).trans xb
    refine ⟨⟨fun q hq => ?_, fun q hq => ?_, ?_, ?_, ?_, ?_, ?_, ?_, ?_, ?_⟩, ⟨fun d5 => ?_, fun d6 => ?_, fun d7 => ?_⟩, ?_, f2 78 (by omega) (by omega) (by omega), f2 79 (by omega) (by omega) (by omega)⟩
    · by_cases e : q = l
      · subst e
        rw [hU (b + 3 + 2 * q + 1) (by omega), xo (b + 3 + 2 * q + 1) (by omega) (by omega) (by omega) (by omega) (by omega) (by omega)]
        exact f1
      · refine (hPl q hq).cg ?_ ?_ (fun j hj => f2 j (by omega) (by omega) (by omega)) (by rw [f2 76 (by omega) (by omega) (by omega)]) (by rw [f2 77 (by omega) (by omega) (by omega)])
        · rw [hU _ (by omega), xo _ (by omega) (by omega) (by omega) (by omega) (by omega) (by omega)]
        · rw [hU _ (by omega), xo _ (by omega) (by omega) (by omega) (by omega) (by omega) (by omega)]
    · by_cases e : q = p
      · subst e
        rw [hU _ (by omega), xe]
        unfold RPe
        rw [f2 78 (by omega) (by omega) (by omega), f2 (52 + q) (by omega) (by omega) (by omega), f2 (60 + q) (by omega) (by omega) (by omega), f3, ← hpe.2.2.2]
        exact ⟨hpe.1, hpe.2.1, hpe.2.2.1, rfl⟩
      · refine (hPe q hq).cg ?_ (fun j hj => f2 j (by omega) (by omega) (by omega)) (f2 78 (by omega) (by omega) (by omega))
        rw [hU _ (by omega), xo _ (by omega) (by omega) (by omega) (by omega) (by omega) (by omega)]
    · rw [ub, f2 78 (by omega) (by omega) (by omega)]; exact hn
    · rw [ub, f2 79 (by omega) (by omega) (by omega)]; exact hd
    · rw [ub, f2 80 (by omega) (by omega) (by omega)]; exact hx4
    · rw [f2 76 (by omega) (by omega) (by omega)]; exact hs76
    · rw [f2 77 (by omega) (by omega) (by omega)]; exact hs77
    · rw [f2 78 (by omega) (by omega) (by omega)]; exact hs78
    · rw [f2 79 (by omega) (by omega) (by omega)]; exact h79
    · rw [f2 80 (by omega) (by omega) (by omega)]; exact h80
    · rw [ub, hW 0 (by decide), n0.1, ← d5]; rfl
    · rw [ub, hW 0 (by decide), n0.2.1, ← ov d6]; rfl
    · rw [ub, hW 0 (by decide), n0.2.2, ← d7]; rfl
    · refine hT.cg (fun i i1 i2 i3 => ?_) (fun i i1 i2 => ?_)
      · rw [hU _ (by omega), xo _ (by omega) (by omega) (by omega) (by omega) (by omega) (by omega)]
      · rw [hW _ (by omega), no _ (by omega) (by omega) (by omega) (by omega)]
  have x6 : V19 (b + 3 + 2 * l) 6 = Vx (b + 3 + 2 * l) 6 := by rw [xc]; rfl
  have xb3 : V19 b 3 = Vx b 3 := by rw [xb]; rfl
  have n20 : W19 1 (20 + l) = Vm 1 (20 + l) := by rw [n1, up1_of (by omega), up1_of (by omega)]
  have n79 : W19 1 79 = Vm 1 79 := by rw [n1, up1_of (by omega), up1_of (by omega)]
  rw [x6, xb3] at hx
  rw [n20, n79] at hm
  by_cases gg : g ≤ 0
  · rw [if_pos gg] at hx hm
    simp only [rtn] at hx hm
    subst hx hm
    exact goal _ _ (Or.inl ⟨xc, n1⟩) (fun _ _ => rfl) (fun _ _ => rfl)
  · rw [if_neg gg] at hx hm
    obtain ⟨-, hx⟩ := hx
    simp only [rdb] at hm
    rcases p7 ht with ⟨c6, c20⟩ | ⟨c6, c7, c20⟩ | ⟨c6, c7, c20⟩
    · rw [if_pos c6] at hx
      rw [if_pos c20] at hm
      simp only [rtn] at hx hm
      subst hx hm
      exact goal _ _ (Or.inl ⟨xc, n1⟩) (fun _ _ => rfl) (fun _ _ => rfl)
    all_goals
      rw [if_neg (by omega)] at hx hm
      simp only [rtn] at hx hm
      subst hx hm
      exact goal _ _ (Or.inr ⟨c6, by rw [up2_row, xc], by rw [up2_row, n1]⟩) (fun i hi => up2_c _ _ hi) (fun i hi => up2_c _ _ hi)
theorem d_give {b p l : Nat} {Vx Jx Vm Jm Ux Um : Nat → Nat → Int} {Rx Rm : Nat → Nat → Nat} (hb : isLa b) (hp : p < 8) (hl : l < 4) (hD : RD b Vx Vm) (hT : RTx Rx Vx Vm) (hpt : bt (Vm 1 78) p = 1) (h76 : bt (Vm 1 76) l = 1) (h77 : ¬ bt (Vm 1 77) l = 1)
    (hx : f_s_giveTo b p l Vx Jx Rx Ux) (hm : f_m_waters p l Vm Jm Rm Um) : RD b Ux Um ∧ RTx Rx Ux Um ∧ Um 1 78 = Vm 1 78 ∧ Um 1 79 = Vm 1 79 := by
  obtain ⟨r1, ⟨c5, c6, c7⟩, r2, r3⟩ := d_giveL hb hp hl hD.1 hT hpt h76 h77 hx hm
  exact ⟨⟨r1, c5 hD.2.1, c6 hD.2.2.1, c7 hD.2.2.2⟩, r2, r3⟩
