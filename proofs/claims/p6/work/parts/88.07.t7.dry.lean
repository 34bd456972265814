-- the end of a day for one plant (own work)
theorem jnk_d {α ρ : Type} {K : α} {f : α → ρ → Prop} {r : ρ} (h : jnk K f r) : f K r := h
theorem jnk_if {α ρ : Type} {c : Prop} {dc : Decidable c} {K : α → ρ → Prop} {x y : α} {r : ρ} (h : jnk K (fun j => @ite (ρ → Prop) c dc (j x) (j y)) r) : K (@ite α c dc x y) r := by
  have h : (@ite (ρ → Prop) c dc (K x) (K y)) r := h
  by_cases hc : c
  · rw [if_pos hc] at h ⊢; exact h
  · rw [if_neg hc] at h ⊢; exact h
theorem q_sDry {c : Nat} {x : Int} {V J U : Nat → Nat → Int} {R : Nat → Nat → Nat} (h : f_s_dryBy c x V J R U) (hw : 0 ≤ V c 2 ∧ V c 2 ≤ 24) (hx : 0 ≤ x ∧ x ≤ 1998) (h4 : 0 ≤ V c 4 ∧ V c 4 ≤ 9) (h5 : 0 ≤ V c 5 ∧ V c 5 ≤ 9) :
    ∃ w d r : Int, w = max 0 (V c 2 - x) ∧ d = (if w = 0 then V c 4 + 1 else 0) ∧ r = (if w = V c 1 then V c 5 + 1 else 0) ∧ (U c 2 = w ∧ U c 4 = d ∧ U c 5 = r ∧ ∀ k : Nat, k ≠ 2 → k ≠ 4 → k ≠ 5 → U c k = V c k) ∧ (U (c + 1) 0 = w ∧ ∀ j : Nat, j < 6 → U (c + 1) (j + 1) = V (c + 1) j) ∧ ∀ i : Nat, i ≠ c → i ≠ c + 1 → U i = V i := by
  unfold f_s_dryBy at h
  obtain ⟨z1, e1, h⟩ := rdb_g h
  obtain ⟨z2, e2, h⟩ := rdb_g h
  obtain ⟨w, e3, -, h⟩ := rdb_g h
  obtain ⟨V4, e4, h⟩ := rdb_g h
  rw [wr_id ⟨by omega, by omega⟩] at e2
  have ew : w = max 0 (V c 2 - x) := by omega
  have v41 : V4 c 1 = V c 1 := by rw [← e4, up2_n _ _ (Or.inr (by decide))]
  have v44 : V4 c 4 = V c 4 := by rw [← e4, up2_n _ _ (Or.inr (by decide))]
  have v45 : V4 c 5 = V c 5 := by rw [← e4, up2_n _ _ (Or.inr (by decide))]
  have h : ∃ d : Int, d = (if w = 0 then V c 4 + 1 else 0) ∧ (fun (z7 : Int) => rdb (up2 V4 c 4 z7) fun V9 => rdb (V9 c 1) fun z10 => jnk (fun (z13 : Int) => rdb (up2 V9 c 5 z13) fun V15 => rdb (cpV V15 (c + 1) 0 (c + 1) 1 6) fun V16 => rdb (V16 c 2) fun z17 => rdb (up2 V16 (c + 1) 0 z17) fun V18 => rtn V18) fun jf14 => (if ¬ w = z10 then jf14 0 else rdb (V9 c 5) fun z20 => rdb (wr (z20 + 1)) fun z21 => jf14 z21)) d U := by
    have h := jnk_d h
    by_cases g : w = 0
    · rw [if_neg (fun hh => hh g)] at h
      rw [if_pos g]
      refine ⟨_, rfl, ?_⟩
      have h : _ := h
      simp only [rdb] at h ⊢
      rw [v44, wr_id ⟨by omega, by omega⟩] at h
      exact h
    · rw [if_pos g] at h
      rw [if_neg g]
      exact ⟨_, rfl, h⟩
  obtain ⟨d, ed, h⟩ := h
  obtain ⟨V9, e9, h⟩ := rdb_g h
  obtain ⟨z10, e10, h⟩ := rdb_g h
  have v91 : V9 c 1 = V c 1 := by rw [← e9, up2_n _ _ (Or.inr (by decide))]; exact v41
  have v95 : V9 c 5 = V c 5 := by rw [← e9, up2_n _ _ (Or.inr (by decide))]; exact v45
  have h : ∃ r : Int, r = (if w = V c 1 then V c 5 + 1 else 0) ∧ (fun (z13 : Int) => rdb (up2 V9 c 5 z13) fun V15 => rdb (cpV V15 (c + 1) 0 (c + 1) 1 6) fun V16 => rdb (V16 c 2) fun z17 => rdb (up2 V16 (c + 1) 0 z17) fun V18 => rtn V18) r U := by
    have h := jnk_d h
    by_cases g : w = V c 1
    · rw [if_neg (fun hh => hh (by omega))] at h
      rw [if_pos g]
      refine ⟨_, rfl, ?_⟩
      have h : _ := h
      simp only [rdb] at h ⊢
      rw [v95, wr_id ⟨by omega, by omega⟩] at h
      exact h
    · rw [if_pos (by omega)] at h
      rw [if_neg g]
      exact ⟨_, rfl, h⟩
  obtain ⟨r, er, h⟩ := h
  obtain ⟨V15, e15, h⟩ := rdb_g h
  obtain ⟨V16, e16, h⟩ := rdb_g h
  obtain ⟨z17, e17, h⟩ := rdb_g h
  obtain ⟨V18, e18, h⟩ := rdb_g h
  have hU : U = V18 := h
  have c15 : V15 c = up1 (up1 (up1 (V c) 2 w) 4 d) 5 r := by rw [← e15, up2_row, ← e9, up2_row, ← e4, up2_row]
  have k15 : V15 (c + 1) = V (c + 1) := by rw [← e15, up2_c _ _ (by omega), ← e9, up2_c _ _ (by omega), ← e4, up2_c _ _ (by omega)]
  have o15 : ∀ i : Nat, i ≠ c → V15 i = V i := fun i hi => by rw [← e15, up2_c _ _ hi, ← e9, up2_c _ _ hi, ← e4, up2_c _ _ hi]
  have c16 : V16 c = V15 c := by
    rw [← e16]
    funext k
    unfold cpV
    rw [if_neg (by omega)]
  have o16 : ∀ i : Nat, i ≠ c + 1 → V16 i = V15 i := fun i hi => by
    rw [← e16]
    funext k
    unfold cpV
    rw [if_neg (by omega)]
  have k16 : ∀ j : Nat, j < 6 → V16 (c + 1) (j + 1) = V (c + 1) j := fun j hj => by
    rw [← e16]
    unfold cpV
    rw [if_pos ⟨rfl, by omega, by omega⟩, k15, show 0 + (j + 1 - 1) = j by omega]
  have c18 : V18 c = up1 (up1 (up1 (V c) 2 w) 4 d) 5 r := by rw [← e18, up2_c _ _ (by omega), c16, c15]
  rw [c16, c15] at e17
  have e17 : w = z17 := e17
  subst hU
  refine ⟨w, d, r, ew, ed, er, ⟨?_, ?_, ?_, fun k k1 k2 k3 => ?_⟩, ⟨?_, fun j hj => ?_⟩, fun i i1 i2 => ?_⟩
  · rw [c18]; rfl
  · rw [c18]; rfl
  · rw [c18]; rfl
  · rw [c18, up1_of k3, up1_of k2, up1_of k1]
  · rw [← e18, up2_s]; exact e17.symm
  · rw [← e18, up2_n _ _ (Or.inr (by omega))]; exact k16 j hj
  · rw [← e18, up2_c _ _ i2, o16 i i2]; exact o15 i i1
/-- the reference: looks go on by one -/
theorem q_shift {l : Nat} {w : Int} {b : (Int → (Nat → Nat → Int) → (Nat → Nat → Int) → Prop) → Int → (Nat → Nat → Int) → (Nat → Nat → Int) → Prop} (hb : b = (fun rc (z : Int) (V : Nat → Nat → Int) => (if z ≤ 0 then rdb (up2 V 1 ((7 * (l : Int) + 24).toNat) w) fun V65 => rtn V65 else rdb (V 1 ((7 * (l : Int) + z + 23).toNat)) fun z66 => rdb (up2 V 1 ((7 * (l : Int) + z + 24).toNat) z66) fun V67 => rc (z - 1) V67))) :
    ∀ (n z : Nat) (zi : Int) (V U : Nat → Nat → Int), zi = z → lop2 n b zi V U → (∀ i : Nat, i ≠ 1 → U i = V i) ∧ U 1 (24 + 7 * l) = w ∧ (∀ j : Nat, j < z → U 1 (24 + 7 * l + j + 1) = V 1 (24 + 7 * l + j)) ∧ ∀ k : Nat, (k < 24 + 7 * l ∨ 24 + 7 * l + z < k) → U 1 k = V 1 k := by
  intro n
  induction n with
  | zero => intro z zi V U _ h; exact False.elim h
  | succ n ih =>
    intro z zi V U hz h
    subst hz
    rw [lop2_s hb] at h
    cases z with
    | zero =>
      rw [if_pos (by decide), show (7 * (l : Int) + 24).toNat = 24 + 7 * l by omega] at h
      have h : U = up2 V 1 (24 + 7 * l) w := h
      subst h
      exact ⟨fun i hi => up2_c _ _ hi, up2_s _ _ _ _, fun j hj => by omega, fun k hk => up2_n _ _ (Or.inr (by omega))⟩
    | succ z =>
      rw [if_neg (by omega), show (7 * (l : Int) + ((z + 1 : Nat) : Int) + 23).toNat = 24 + 7 * l + z by omega, show (7 * (l : Int) + ((z + 1 : Nat) : Int) + 24).toNat = 24 + 7 * l + z + 1 by omega, show ((z + 1 : Nat) : Int) - 1 = (z : Int) by omega] at h
      simp only [rdb] at h
      obtain ⟨h1, h2, h3, h4⟩ := ih z _ _ U rfl h
      refine ⟨fun i hi => by rw [h1 i hi, up2_c _ _ hi], h2, fun j hj => ?_, fun k hk => ?_⟩
      · by_cases e : j = z
        · subst e
          rw [h4 _ (by omega), up2_s]
        · rw [h3 j (by omega), up2_n _ _ (Or.inr (by omega))]
      · rw [h4 k (by omega), up2_n _ _ (Or.inr (by omega))]
theorem q_dFin {l : Nat} {w d r : Int} {V V16 W U : Nat → Nat → Int} (hl : l < 4) (o16 : ∀ i : Nat, i ≠ 1 → V16 i = V i) (k16 : ∀ k : Nat, k ≠ 12 + l → k ≠ 16 + l → V16 1 k = V 1 k) (d16 : V16 1 (12 + l) = d) (r16 : V16 1 (16 + l) = r)
    (h1 : ∀ i : Nat, i ≠ 1 → W i = V16 i) (h2 : ∀ k : Nat, k ≠ 77 → W 1 k = V16 1 k) (h3 : W 1 77 = (if V 1 (8 + l) ≤ d ∨ V 1 (8 + l) ≤ r then iOr (V 1 77) (iShl 1 l) else V 1 77))
    (h4 : lop2 (8) (fun rc55 (z54 : Int) (V55 : Nat → Nat → Int) => (if z54 ≤ 0 then rdb (up2 V55 1 ((7 * (l : Int) + 24).toNat) w) fun V65 => rtn V65 else rdb (V55 1 ((7 * (l : Int) + z54 + 23).toNat)) fun z66 => rdb (up2 V55 1 ((7 * (l : Int) + z54 + 24).toNat) z66) fun V67 => rc55 (z54 - 1) V67)) 6 W U) :
    (∀ i : Nat, i ≠ 1 → U i = V i) ∧ (U 1 (12 + l) = d ∧ U 1 (16 + l) = r ∧ U 1 77 = (if V 1 (8 + l) ≤ d ∨ V 1 (8 + l) ≤ r then iOr (V 1 77) (iShl 1 l) else V 1 77)) ∧ (U 1 (24 + 7 * l) = w ∧ ∀ j : Nat, j < 6 → U 1 (24 + 7 * l + j + 1) = V 1 (24 + 7 * l + j)) ∧ ∀ k : Nat, k ≠ 12 + l → k ≠ 16 + l → k ≠ 77 → (k < 24 + 7 * l ∨ 30 + 7 * l < k) → U 1 k = V 1 k := by
  obtain ⟨b, hb, h4⟩ := lop2_g h4
  obtain ⟨s1, s2, s3, s4⟩ := q_shift hb 8 6 6 W U rfl h4
  refine ⟨fun i hi => by rw [s1 i hi, h1 i hi, o16 i hi], ⟨?_, ?_, ?_⟩, ⟨s2, fun j hj => ?_⟩, fun k k1 k2 k3 k4 => ?_⟩
  · rw [s4 _ (by omega), h2 _ (by omega), d16]
  · rw [s4 _ (by omega), h2 _ (by omega), r16]
  · rw [s4 _ (by omega), h3]
  · rw [s3 j hj, h2 _ (by omega), k16 _ (by omega) (by omega)]
  · rw [s4 _ (by omega), h2 _ k3, k16 _ k1 k2]
/-- what dries() does behind the asking -/
def dTail (x1 z7 z1 z2 : Int) (V9 : Nat → Nat → Int) : (Nat → Nat → Int) → Prop :=
  jnk (fun (z10 : Int) => rdb (up2 V9 1 ((x1 + 12).toNat) z10) fun V12 => rdb (V12 1 x1.toNat) fun z13 => fct (0 ≤ z13 ∧ z13 ≤ 24) <| jnk (fun (z14 : Int) => rdb (up2 V12 1 ((x1 + 16).toNat) z14) fun V16 => rdb (V16 1 ((x1 + 8).toNat)) fun z17 => fct (0 ≤ z17 ∧ z17 ≤ 9) <| jnk (fun (V28 : Nat → Nat → Int) => lop2 (8) (fun rc55 (z54 : Int) (V55 : Nat → Nat → Int) => (if z54 ≤ 0 then rdb (up2 V55 1 ((7 * x1 + 24).toNat) z7) fun V65 => rtn V65 else rdb (V55 1 ((7 * x1 + z54 + 23).toNat)) fun z66 => rdb (up2 V55 1 ((7 * x1 + z54 + 24).toNat) z66) fun V67 => rc55 (z54 - 1) V67)) 6 V28) fun jf28 => (if z17 ≤ z10 then rdb (V16 1 77) fun z69 => rdb (iShl 1 x1) fun z70 => rdb (iOr z69 z70) fun z71 => rdb (up2 V16 1 77 z71) fun V72 => jf28 V72 else (if z14 < z17 then jf28 V16 else rdb (V16 1 77) fun z75 => rdb (iShl 1 x1) fun z76 => rdb (iOr z75 z76) fun z77 => rdb (up2 V16 1 77 z77) fun V78 => jf28 V78))) fun jf15 => (if ¬ z7 = z13 then jf15 0 else jf15 (z2 + 1))) fun jf11 => (if ¬ z7 = 0 then jf11 0 else jf11 (z1 + 1))
set_option maxRecDepth 100000 in
theorem q_dTail {l : Nat} {w d0 r0 : Int} {V U : Nat → Nat → Int} (hl : l < 4) (h : dTail l w d0 r0 V U) :
    ∃ d r : Int, d = (if w = 0 then d0 + 1 else 0) ∧ r = (if w = V 1 l then r0 + 1 else 0) ∧ (∀ i : Nat, i ≠ 1 → U i = V i) ∧ (U 1 (12 + l) = d ∧ U 1 (16 + l) = r ∧ U 1 77 = (if V 1 (8 + l) ≤ d ∨ V 1 (8 + l) ≤ r then iOr (V 1 77) (iShl 1 l) else V 1 77)) ∧ (U 1 (24 + 7 * l) = w ∧ ∀ j : Nat, j < 6 → U 1 (24 + 7 * l + j + 1) = V 1 (24 + 7 * l + j)) ∧ ∀ k : Nat, k ≠ 12 + l → k ≠ 16 + l → k ≠ 77 → (k < 24 + 7 * l ∨ 30 + 7 * l < k) → U 1 k = V 1 k := by
  unfold dTail at h
  have h := jnk_if h
  rw [show ((l : Int) + 12).toNat = 12 + l by omega, show ((l : Int) + 16).toNat = 16 + l by omega, show ((l : Int) + 8).toNat = 8 + l by omega, Int.toNat_natCast] at h
  obtain ⟨V12, e12, h⟩ := rdb_g h
  obtain ⟨z13, e13, -, h⟩ := rdb_g h
  have h := jnk_if h
  obtain ⟨V16, e16, h⟩ := rdb_g h
  obtain ⟨z17, e17, -, h⟩ := rdb_g h
  have ep : z13 = V 1 l := by rw [← e13, ← e12, up2_n _ _ (Or.inr (by omega))]
  rw [ep] at h e16
  have hd : (if ¬ w = 0 then (0 : Int) else d0 + 1) = (if w = 0 then d0 + 1 else 0) := by
    by_cases g : w = 0
    · rw [if_neg (fun hh => hh g), if_pos g]
    · rw [if_pos g, if_neg g]
  have hr : (if ¬ w = V 1 l then (0 : Int) else r0 + 1) = (if w = V 1 l then r0 + 1 else 0) := by
    by_cases g : w = V 1 l
    · rw [if_neg (fun hh => hh g), if_pos g]
    · rw [if_pos g, if_neg g]
  rw [hd] at h e12
  rw [hr] at h e16
  refine ⟨_, _, rfl, rfl, ?_⟩
  generalize (if w = 0 then d0 + 1 else 0) = d at *
  generalize (if w = V 1 l then r0 + 1 else 0) = r at *
  have o16 : ∀ i : Nat, i ≠ 1 → V16 i = V i := fun i hi => by rw [← e16, up2_c _ _ hi, ← e12, up2_c _ _ hi]
  have k16 : ∀ k : Nat, k ≠ 12 + l → k ≠ 16 + l → V16 1 k = V 1 k := fun k k1 k2 => by rw [← e16, up2_n _ _ (Or.inr k2), ← e12, up2_n _ _ (Or.inr k1)]
  have d16 : V16 1 (12 + l) = d := by rw [← e16, up2_n _ _ (Or.inr (by omega)), ← e12, up2_s]
  have r16 : V16 1 (16 + l) = r := by rw [← e16, up2_s]
  have ez : z17 = V 1 (8 + l) := by rw [← e17]; exact k16 _ (by omega) (by omega)
  subst ez
  have fin := fun W h1 h2 h3 h4 => q_dFin (V := V) (V16 := V16) (W := W) (U := U) (w := w) (d := d) (r := r) hl o16 k16 d16 r16 h1 h2 h3 h4
  have k77 : V16 1 77 = V 1 77 := k16 _ (by omega) (by omega)
  have h := jnk_d h
  by_cases g1 : V 1 (8 + l) ≤ d
  · rw [if_pos g1] at h
    obtain ⟨y1, f1, h⟩ := rdb_g h
    obtain ⟨y2, f2, h⟩ := rdb_g h
    obtain ⟨y3, f3, h⟩ := rdb_g h
    obtain ⟨V72, f4, h⟩ := rdb_g h
    exact fin V72 (fun i hi => by rw [← f4, up2_c _ _ hi]) (fun k hk => by rw [← f4, up2_n _ _ (Or.inr hk)]) (by rw [← f4, up2_s, ← f3, ← f2, ← f1, k77, if_pos (Or.inl g1)]) h
  · rw [if_neg g1] at h
    by_cases g2 : r < V 1 (8 + l)
    · rw [if_pos g2] at h
      exact fin V16 (fun i hi => rfl) (fun k hk => rfl) (by rw [k77, if_neg (by omega)]) h
    · rw [if_neg g2] at h
      obtain ⟨y1, f1, h⟩ := rdb_g h
      obtain ⟨y2, f2, h⟩ := rdb_g h
      obtain ⟨y3, f3, h⟩ := rdb_g h
      obtain ⟨V72, f4, h⟩ := rdb_g h
      exact fin V72 (fun i hi => by rw [← f4, up2_c _ _ hi]) (fun k hk => by rw [← f4, up2_n _ _ (Or.inr hk)]) (by rw [← f4, up2_s, ← f3, ← f2, ← f1, k77, if_pos (Or.inr (by omega))]) h
theorem d_goes {b l : Nat} {lt a z : Int} {Vx Jx Vm W Jm Ux Um : Nat → Nat → Int} {Rx Rm : Nat → Nat → Nat} (hb : isLa b) (hl : l < 4) (hR : RLz b Vx (Vm 1)) (hT : RTx Rx Vx W) (ht : Vx (b + 3 + 2 * l) 0 = 1)
    (h0 : W 18 0 = Vm 1 79 ∧ W 18 1 = iRem (Vm 1 79) 7 ∧ W 18 10 = cnt (Vm 1 78)) (h1 : W 18 2 = l ∧ W 18 3 = Vm 1 l ∧ W 18 4 = Vm 1 (4 + l) ∧ W 18 5 = Vm 1 (30 + 7 * l) ∧ W 18 6 = Vm 1 (12 + l) ∧ W 18 7 = Vm 1 (16 + l) ∧ W 18 11 = agM (Vm 1 (20 + l)) (Vm 1 79)) (h2 : W 18 8 = 0 ∧ W 18 9 = 0 ∧ W 18 12 = 0)
    (hx : f_s_goes b l lt Vx Jx Rx (a, Ux)) (hm : f_m_byText 0 lt 9 W Jm Rm (z, Um)) : a = z ∧ (0 ≤ a ∧ a ≤ 999) ∧ (∀ i : Nat, i ≠ 69 → i ≠ 70 → i ≠ 71 → Ux i = Vx i) ∧ ∀ i : Nat, i ≠ 17 → Um i = W i := by
  have bb := isLa_b hb
  simp only [f_s_goes, rdb, Int.toNat_natCast] at hx
  obtain ⟨V4, h4, -, V7, h7, -, V10, h10, -, a2, V13, h13, B13, ar, hx⟩ := hx
  simp only [rtn, Prod.mk.injEq] at hx
  obtain ⟨rfl, rfl⟩ := hx
  obtain ⟨e4, r4⟩ := q_onDay h4
  obtain ⟨e7, r7⟩ := q_of h7 (by omega)
  obtain ⟨e10, r10⟩ := q_byNobody h10
  obtain ⟨hPl, hPe, hn, hd, -⟩ := hR
  have hpl := hPl l hl
  have k4 : V4 b = Vx b := r4 b (by omega)
  have k4c : V4 (b + 3 + 2 * l) = Vx (b + 3 + 2 * l) := r4 _ (by omega)
  have k4k : V4 (b + 3 + 2 * l + 1) = Vx (b + 3 + 2 * l + 1) := r4 _ (by omega)
  rw [k4, k4c, k4k, e4] at e7
  rw [e7] at e10
  have hxr : ∀ i : Nat, i ≠ 70 → V10 i = Vx i := fun i hi => by rw [r10 i hi, r7 i hi, r4 i hi]
  have hT2 := hT.cg (Ux := V10) (Um := W) (fun i h1 h2 h3 => hxr i (by omega)) (fun i h1 h2 => rfl)
  have hRF : RF V10 W := felt (b := b) (l := l) (V := Vx) (N := Vm) (f := V10 70) (F := W 18) (d := Vx b 3) (n := Vx b 2) (p := 0) (t := 0) (q := 0) (c := Vx (b + 3 + 2 * l)) (k := Vx (b + 3 + 2 * l + 1)) e10 hpl ht hd hn h0 h1 h2
  obtain ⟨g1, g2, g3⟩ := q_ask (tx := 0) hT2.1.1 (by decide) hT2.1.2 hRF (by decide) h13 hm
  exact ⟨g1, ar, fun i i1 i2 i3 => (B13.row (i := i) (fun k hk => by omega)).trans (hxr i i2), g3⟩
theorem d_endL {b l : Nat} {s : Int} {Vx Jx Vm Jm Ux Um : Nat → Nat → Int} {Rx Rm : Nat → Nat → Nat} (hb : isLa b) (hl : l < 4) (hD : RLz b Vx (Vm 1)) (hT : RTx Rx Vx Vm) (h76 : bt (Vm 1 76) l = 1) (h77 : ¬ bt (Vm 1 77) l = 1)
    (hx : f_s_endDay b l s Vx Jx Rx Ux) (hm : f_m_dries l s Vm Jm Rm Um) : RLz b Ux (Um 1) ∧ ((Vx b 5 = Vm 0 27 → Ux b 5 = Um 0 27) ∧ (Vx b 6 = Vm 0 28 → Ux b 6 = Um 0 28) ∧ (Vx b 7 = Vm 0 29 → Ux b 7 = Um 0 29)) ∧ RTx Rx Ux Um ∧ (Um 1 78 = Vm 1 78 ∧ Um 1 79 = Vm 1 79) ∧ ∀ i : Nat, i ≠ 69 → i ≠ 70 → i ≠ 71 → i ≠ b + 3 + 2 * l → i ≠ b + 3 + 2 * l + 1 → Ux i = Vx i := by
  have bb := isLa_b hb
  have hR := hD
  have hR0 := hR
  obtain ⟨hPl, hPe, hn, hd, hx4, hs76, hs77, hs78, h79, h80⟩ := hR
  have hpl := hPl l hl
  obtain ⟨p0, p1, p2, p3, p4, p5, p6, p7, p8, p9, p10, p11, p12, p13⟩ := hpl
  have ht : Vx (b + 3 + 2 * l) 0 = 1 := p0.trans h76
  have nd : ¬ dedX (Vx (b + 3 + 2 * l)) := fun h => h77 (p8.mpr h)
  have nd2 : Vx (b + 3 + 2 * l) 4 < Vx (b + 3 + 2 * l) 3 ∧ Vx (b + 3 + 2 * l) 5 < Vx (b + 3 + 2 * l) 3 := by
    unfold dedX at nd
    omega
  unfold f_m_dries at hm
  obtain ⟨d0, ed0, -, hm⟩ := rdb_g hm
  obtain ⟨r0, er0, -, hm⟩ := rdb_g hm
  rw [show ((l : Int) + 12).toNat = 12 + l by omega] at ed0
  rw [show ((l : Int) + 16).toNat = 16 + l by omega] at er0
  obtain ⟨W3, h3, -, hm⟩ := hm
  obtain ⟨ge, W4, h4, -, -, hm⟩ := hm
  obtain ⟨f1, f2, f3, f4⟩ := q_feelsPlant h3 ⟨by omega, by omega⟩
  rw [Int.toNat_natCast] at f3
  unfold f_s_endDay at hx
  obtain ⟨g, V1, h1, -, -, hx⟩ := hx
  have hT3 := hT.cg (Ux := Vx) (Um := W3) (fun _ _ _ _ => rfl) (fun i i1 i2 => f1 i (by omega))
  obtain ⟨e1, r1, x1, m1⟩ := d_goes hb hl hR0 hT3 ht f2 f3 f4 h1 h4
  subst e1
  -- how many go
  have both : ∃ (V4 : Nat → Nat → Int) (W5 W9 : Nat → Nat → Int) (less w : Int), (0 ≤ less ∧ less ≤ 1998) ∧ (∀ i : Nat, i ≠ 69 → i ≠ 70 → i ≠ 71 → V4 i = Vx i) ∧ (∀ i : Nat, i ≠ 17 → i ≠ 18 → W5 i = Vm i) ∧ w = max 0 (Vm 1 (4 + l) - less) ∧ f_s_dryBy (b + 3 + 2 * l) less V4 Jx Rx Ux ∧ W9 = up2 W5 1 (4 + l) w ∧ dTail l w d0 r0 W9 Um := by
    have hW4 : ∀ i : Nat, i ≠ 17 → i ≠ 18 → W4 i = Vm i := fun i i1 i2 => (m1 i i1).trans (f1 i i2)
    have hx := jnk_d hx
    by_cases hs : s = 0
    · rw [if_pos hs] at hx hm
      obtain ⟨c5, ec5, hx⟩ := rdb_g hx
      obtain ⟨V6, h6, -, hx⟩ := hx
      have hx : Ux = V6 := hx
      subst hx
      rw [Int.toNat_natCast] at ec5
      subst ec5
      obtain ⟨y6, e6, -, hm⟩ := rdb_g hm
      obtain ⟨w, hw, hm⟩ := hm
      obtain ⟨W9, e9, hm⟩ := rdb_g hm
      have hw := q_max hw
      rw [show ((l : Int) + 4).toNat = 4 + l by omega, hW4 1 (by decide) (by decide)] at e6
      rw [show ((l : Int) + 4).toNat = 4 + l by omega] at e9
      subst e6
      exact ⟨V1, W4, W9, g, w, by omega, x1, hW4, hw, h6, e9.symm, hm⟩
    · rw [if_neg hs] at hx hm
      obtain ⟨gh, V8, h8, -, -, hx⟩ := hx
      obtain ⟨c5, ec5, hx⟩ := rdb_g hx
      obtain ⟨V6, h6, -, hx⟩ := hx
      have hx : Ux = V6 := hx
      subst hx
      rw [Int.toNat_natCast] at ec5
      subst ec5
      obtain ⟨gm, W81, h81, -, -, hm⟩ := hm
      have hR1 : RLz b V1 (Vm 1) := by
        refine ⟨fun q hq => ?_, fun q hq => ?_, ?_, ?_, ?_, hs76, hs77, hs78, h79, h80⟩
        · rw [x1 (b + 3 + 2 * q) (by omega) (by omega) (by omega), x1 (b + 3 + 2 * q + 1) (by omega) (by omega) (by omega)]; exact hPl q hq
        · rw [x1 (b + 11 + q) (by omega) (by omega) (by omega)]; exact hPe q hq
        · rw [x1 b (by omega) (by omega) (by omega)]; exact hn
        · rw [x1 b (by omega) (by omega) (by omega)]; exact hd
        · rw [x1 b (by omega) (by omega) (by omega)]; exact hx4
      have hT4 := hT3.cg (Ux := V1) (Um := W4) (fun i i1 i2 i3 => x1 i (by omega) (by omega) (by omega)) (fun i i1 i2 => m1 i (by omega))
      have m18 : W4 18 = W3 18 := m1 18 (by decide)
      obtain ⟨e2, r2, x2, m2⟩ := d_goes hb hl hR1 hT4 (by rw [x1 _ (by omega) (by omega) (by omega)]; exact ht) (by rw [m18]; exact f2) (by rw [m18]; exact f3) (by rw [m18]; exact f4) h8 h81
      subst e2
      obtain ⟨y6, e6, -, hm⟩ := rdb_g hm
      obtain ⟨w, hw, hm⟩ := hm
      obtain ⟨W9, e9, hm⟩ := rdb_g hm
      have hw := q_max hw
      have hW8 : ∀ i : Nat, i ≠ 17 → i ≠ 18 → W81 i = Vm i := fun i i1 i2 => (m2 i i1).trans (hW4 i i1 i2)
      rw [show ((l : Int) + 4).toNat = 4 + l by omega, hW8 1 (by decide) (by decide)] at e6
      rw [show ((l : Int) + 4).toNat = 4 + l by omega] at e9
      subst e6
      exact ⟨V8, W81, W9, g + gh, w, by omega, fun i i1 i2 i3 => (x2 i i1 i2 i3).trans (x1 i i1 i2 i3), hW8, by omega, h6, e9.symm, hm⟩
  obtain ⟨V4, W5, W9, less, w, hless, hV4, hW5, hw, hdry, e9, htail⟩ := both
  have v4c : V4 (b + 3 + 2 * l) = Vx (b + 3 + 2 * l) := hV4 _ (by omega) (by omega) (by omega)
  have v4k : V4 (b + 3 + 2 * l + 1) = Vx (b + 3 + 2 * l + 1) := hV4 _ (by omega) (by omega) (by omega)
  obtain ⟨w2, d, r, ew, ed, er, ⟨u2, u4, u5, uo⟩, ⟨uk0, uk⟩, ux⟩ := q_sDry hdry (by rw [v4c]; exact p10) hless (by rw [v4c]; exact p12) (by rw [v4c]; exact p13)
  rw [v4c] at ew ed er
  have eww : w2 = w := by rw [ew, hw, p2]
  subst eww
  obtain ⟨d2, r2, ed2, er2, t1, ⟨t12, t16, t77⟩, ⟨t24, tk⟩, tof⟩ := q_dTail hl htail
  have n9 : ∀ k : Nat, k ≠ 4 + l → W9 1 k = Vm 1 k := fun k hk => by rw [e9, up2_n _ _ (Or.inr hk), hW5 1 (by decide) (by decide)]
  have n94 : W9 1 (4 + l) = w2 := by rw [e9, up2_s]
  have o9 : ∀ i : Nat, i ≠ 1 → i ≠ 17 → i ≠ 18 → W9 i = Vm i := fun i i1 i2 i3 => by rw [e9, up2_c _ _ i1]; exact hW5 i i2 i3
  rw [n9 l (by omega)] at er2
  have edd : d2 = d := by rw [ed2, ed, p4, ← ed0]
  have err : r2 = r := by rw [er2, er, p5, ← er0, p1]
  subst edd err
  rw [n9 (8 + l) (by omega), n9 77 (by omega)] at t77
  have hNo : ∀ k : Nat, k ≠ 4 + l → k ≠ 12 + l → k ≠ 16 + l → k ≠ 77 → (k < 24 + 7 * l ∨ 30 + 7 * l < k) → Um 1 k = Vm 1 k := fun k k0 k1 k2 k3 k4 => by rw [tof k k1 k2 k3 k4]; exact n9 k k0
  have h4 : Um 1 (4 + l) = w2 := by rw [tof _ (by omega) (by omega) (by omega) (by omega)]; exact n94
  have dr : 0 ≤ d2 ∧ d2 ≤ 9 := by
    rw [ed2]; split <;> omega
  have rr : 0 ≤ r2 ∧ r2 ≤ 9 := by
    rw [er2]; split <;> omega
  have hor := bt_or (s := Vm 1 77) (p := (l : Int)) ⟨by omega, by omega⟩ ⟨by omega, by omega⟩
  have hor4 := bt_or4 (s := Vm 1 77) (p := (l : Int)) hs77 ⟨by omega, by omega⟩
  have hb77 : ∀ q : Nat, q < 4 → q ≠ l → bt (Um 1 77) q = bt (Vm 1 77) q := fun q hq hne => by
    rw [t77]
    split
    · rw [hor.2 q ⟨by omega, by omega⟩, if_neg (by omega)]
    · rfl
  have UX : ∀ i : Nat, i ≠ 69 → i ≠ 70 → i ≠ 71 → i ≠ b + 3 + 2 * l → i ≠ b + 3 + 2 * l + 1 → Ux i = Vx i := fun i i1 i2 i3 i4 i5 => (ux i i4 i5).trans (hV4 i i1 i2 i3)
  have ub : Ux b = Vx b := UX b (by omega) (by omega) (by omega) (by omega) (by omega)
  refine ⟨⟨fun q hq => ?_, fun q hq => ?_, ?_, ?_, ?_, ?_, ?_, ?_, ?_, ?_⟩, ⟨fun d5 => ?_, fun d6 => ?_, fun d7 => ?_⟩, ?_, ⟨hNo 78 (by omega) (by omega) (by omega) (by omega) (by omega), hNo 79 (by omega) (by omega) (by omega) (by omega) (by omega)⟩, UX⟩
  · by_cases e : q = l
    · subst e
      have c0 : Ux (b + 3 + 2 * q) 0 = Vx (b + 3 + 2 * q) 0 := by rw [uo 0 (by decide) (by decide) (by decide), v4c]
      have c1 : Ux (b + 3 + 2 * q) 1 = Vx (b + 3 + 2 * q) 1 := by rw [uo 1 (by decide) (by decide) (by decide), v4c]
      have c3 : Ux (b + 3 + 2 * q) 3 = Vx (b + 3 + 2 * q) 3 := by rw [uo 3 (by decide) (by decide) (by decide), v4c]
      have c6 : Ux (b + 3 + 2 * q) 6 = Vx (b + 3 + 2 * q) 6 := by rw [uo 6 (by decide) (by decide) (by decide), v4c]
      have c7 : Ux (b + 3 + 2 * q) 7 = Vx (b + 3 + 2 * q) 7 := by rw [uo 7 (by decide) (by decide) (by decide), v4c]
      unfold RPl dedX
      rw [c0, c1, c3, c6, c7, u2, u4, u5, hNo 76 (by omega) (by omega) (by omega) (by omega) (by omega), hNo q (by omega) (by omega) (by omega) (by omega) (by omega), h4, hNo (8 + q) (by omega) (by omega) (by omega) (by omega) (by omega), t12, t16, hNo (20 + q) (by omega) (by omega) (by omega) (by omega) (by omega)]
      refine ⟨p0, p1, rfl, p3, rfl, rfl, fun j hj => ?_, p7, ?_, p9, by omega, p11, dr, rr⟩
      · cases j with
        | zero => rw [uk0]; exact t24.symm
        | succ j => rw [uk j (by omega), v4k, p6 j (by omega), show 24 + 7 * q + (j + 1) = 24 + 7 * q + j + 1 by omega, tk j (by omega), n9 _ (by omega)]
      · rw [t77, p3]
        by_cases hc : Vm 1 (8 + q) ≤ d2 ∨ Vm 1 (8 + q) ≤ r2
        · rw [if_pos hc, hor.2 q ⟨by omega, by omega⟩, if_pos rfl]
          exact ⟨fun _ => ⟨by omega, hc⟩, fun _ => rfl⟩
        · rw [if_neg hc]
          exact ⟨fun hh => absurd hh h77, fun hh => absurd hh.2 hc⟩
    · refine (hPl q hq).cg (UX _ (by omega) (by omega) (by omega) (by omega) (by omega)) (UX _ (by omega) (by omega) (by omega) (by omega) (by omega)) (fun j hj => ?_) (by rw [hNo 76 (by omega) (by omega) (by omega) (by omega) (by omega)]) (hb77 q hq e)
      exact hNo j (by omega) (by omega) (by omega) (by omega) (by omega)
  · refine (hPe q hq).cg (UX _ (by omega) (by omega) (by omega) (by omega) (by omega)) (fun j hj => hNo j (by omega) (by omega) (by omega) (by omega) (by omega)) (hNo 78 (by omega) (by omega) (by omega) (by omega) (by omega))
  · rw [ub, hNo 78 (by omega) (by omega) (by omega) (by omega) (by omega)]; exact hn
  · rw [ub, hNo 79 (by omega) (by omega) (by omega) (by omega) (by omega)]; exact hd
  · rw [ub, hNo 80 (by omega) (by omega) (by omega) (by omega) (by omega)]; exact hx4
  · rw [hNo 76 (by omega) (by omega) (by omega) (by omega) (by omega)]; exact hs76
  · rw [t77]; split <;> omega
  · rw [hNo 78 (by omega) (by omega) (by omega) (by omega) (by omega)]; exact hs78
  · rw [hNo 79 (by omega) (by omega) (by omega) (by omega) (by omega)]; exact h79
  · rw [hNo 80 (by omega) (by omega) (by omega) (by omega) (by omega)]; exact h80
  · rw [ub, t1 0 (by decide), o9 0 (by decide) (by decide) (by decide)]; exact d5
  · rw [ub, t1 0 (by decide), o9 0 (by decide) (by decide) (by decide)]; exact d6
  · rw [ub, t1 0 (by decide), o9 0 (by decide) (by decide) (by decide)]; exact d7
  · exact hT.cg (fun i i1 i2 i3 => UX i (by omega) (by omega) (by omega) (by omega) (by omega)) (fun i i1 i2 => by rw [t1 i (by omega)]; exact o9 i (by omega) (by omega) (by omega))
theorem d_end {b l : Nat} {s : Int} {Vx Jx Vm Jm Ux Um : Nat → Nat → Int} {Rx Rm : Nat → Nat → Nat} (hb : isLa b) (hl : l < 4) (hD : RD b Vx Vm) (hT : RTx Rx Vx Vm) (h76 : bt (Vm 1 76) l = 1) (h77 : ¬ bt (Vm 1 77) l = 1)
    (hx : f_s_endDay b l s Vx Jx Rx Ux) (hm : f_m_dries l s Vm Jm Rm Um) : RD b Ux Um ∧ RTx Rx Ux Um ∧ Um 1 78 = Vm 1 78 ∧ Um 1 79 = Vm 1 79 := by
  obtain ⟨r1, ⟨c5, c6, c7⟩, r2, r3, -⟩ := d_endL hb hl hD.1 hT h76 h77 hx hm
  exact ⟨⟨r1, c5 hD.2.1, c6 hD.2.2.1, c7 hD.2.2.2⟩, r2, r3⟩
