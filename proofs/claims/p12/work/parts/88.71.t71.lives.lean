section
-- how likely it lives, the first side (own work)
def p10 : Nat → Int
  | 0 => 1
  | n + 1 => 10 * p10 n
theorem p10_l : ∀ k : Nat, k ≤ 18 → 1 ≤ p10 k ∧ p10 k ≤ 1000000000000000000 := by decide +kernel
set_option maxRecDepth 100000 in
theorem q_fillW {t : Nat} {V J U J2 : Nat → Nat → Int} {R R2 : Nat → Nat → Nat} (h : f_s_fillW t 0 V J R (U, J2, R2)) : U = V ∧ R2 = R ∧ (∀ s : Nat, s < 475 → J2 t s = 0) ∧ ∀ i : Nat, i ≠ t → J2 i = J i := by
  unfold f_s_fillW at h
  obtain ⟨b, hb, h⟩ := lop2_g h
  have key : ∀ (m i : Nat) (Z : Nat → Nat → Int), (∀ s : Nat, s < i → s < 475 → Z t s = 0) → (∀ q : Nat, q ≠ t → Z q = J q) → lop2 m b (i : Int) Z (U, J2, R2) → U = V ∧ R2 = R ∧ (∀ s : Nat, s < 475 → J2 t s = 0) ∧ ∀ i : Nat, i ≠ t → J2 i = J i := by
    intro m
    induction m with
    | zero => intro i Z _ _ h; exact False.elim h
    | succ m ih =>
      intro i Z hz ho h
      rw [lop2_s hb] at h
      by_cases g : (475 : Int) ≤ i
      · rw [if_pos g] at h
        simp only [rtn, Prod.mk.injEq] at h
        obtain ⟨rfl, rfl, rfl⟩ := h
        exact ⟨rfl, rfl, fun s hs => hz s (by omega) hs, ho⟩
      · rw [if_neg g] at h
        obtain ⟨Z2, e, h⟩ := rdb_g h
        rw [Int.toNat_natCast] at e
        rw [show ((i : Int) + 1) = ((i + 1 : Nat) : Int) by omega] at h
        refine ih (i + 1) Z2 (fun s h1 h2 => ?_) (fun q hq => ?_) h
        · rw [← e, up2_row]
          by_cases k : s = i
          · subst k; rw [up1_s]
          · rw [up1_n _ _ k]; exact hz s (by omega) h2
        · rw [← e, up2_c _ _ hq]; exact ho q hq
  exact key 477 0 J (fun s hs => by omega) (fun _ _ => rfl) h
theorem q_ofNothing {V J U : Nat → Nat → Int} {R : Nat → Nat → Nat} (h : f_s_ofNothing V J R U) : (∀ k : Nat, k < 26 → U 70 k = 0) ∧ ∀ i : Nat, i ≠ 70 → U i = V i := by
  unfold f_s_ofNothing at h
  obtain ⟨U1, h, -, hU⟩ := h
  have hU : U = U1 := hU
  subst hU
  unfold f_s_fillA at h
  obtain ⟨b, hb, h⟩ := lop2_g h
  have key : ∀ (m i : Nat) (Z : Nat → Nat → Int), (∀ s : Nat, s < i → s < 26 → Z 70 s = 0) → (∀ q : Nat, q ≠ 70 → Z q = V q) → lop2 m b (i : Int) Z U → (∀ k : Nat, k < 26 → U 70 k = 0) ∧ ∀ i : Nat, i ≠ 70 → U i = V i := by
    intro m
    induction m with
    | zero => intro i Z _ _ h; exact False.elim h
    | succ m ih =>
      intro i Z hz ho h
      rw [lop2_s hb] at h
      by_cases g : (26 : Int) ≤ i
      · rw [if_pos g] at h
        have h : U = Z := h
        subst h
        exact ⟨fun s hs => hz s (by omega) hs, ho⟩
      · rw [if_neg g] at h
        obtain ⟨Z2, e, h⟩ := rdb_g h
        rw [Int.toNat_natCast] at e
        rw [show ((i : Int) + 1) = ((i + 1 : Nat) : Int) by omega] at h
        refine ih (i + 1) Z2 (fun s h1 h2 => ?_) (fun q hq => ?_) h
        · rw [← e, up2_row]
          by_cases k : s = i
          · subst k; rw [up1_s]
          · rw [up1_n _ _ k]; exact hz s (by omega) h2
        · rw [← e, up2_c _ _ hq]; exact ho q hq
  exact key 28 0 V (fun s hs => by omega) (fun _ _ => rfl) h
/-- the letters as they begin -/
theorem rowC_0 {r : Nat → Int} {l o s0 : Int} (h : ∀ k : Nat, k < 26 → r k = 0) : ∀ k : Nat, k < 26 → up1 (up1 (up1 (up1 r 11 l) 14 o) 18 s0) 0 99 k = rowC l o s0 0 0 0 0 0 0 0 k := fun k hk => by
  by_cases k0 : k = 0
  · subst k0; rw [up1_s]; rfl
  rw [up1_n _ _ k0]
  by_cases k18 : k = 18
  · subst k18; rw [up1_s]; rfl
  rw [up1_n _ _ k18]
  by_cases k14 : k = 14
  · subst k14; rw [up1_s]; rfl
  rw [up1_n _ _ k14]
  by_cases k11 : k = 11
  · subst k11; rw [up1_s]; rfl
  rw [up1_n _ _ k11, h k hk]
  unfold rowC
  rw [if_neg k0, if_neg k11, if_neg k14, if_neg k18]
  have e : iRem 0 7 = 0 := by decide
  rw [e]
  repeat' split
  all_goals rfl
def alv (bears : Int) (s : Nat) : Int := if dedS bears s then 0 else 1
/-- k PEOPLE come or not, from the i-th on -/
def zPs (bears pot : Int) (c : Nat → Int) (g : Nat → Nat → Int) : Nat → Nat → (Nat → Int) → Nat → Int
  | 0, _, L => L
  | k + 1, i, L => zTp bears pot (c i) (g i) (zPs bears pot c g k (i + 1) L)
/-- r DAYS go by, from the d-th on -/
def zDs (bears pot : Int) (c : Nat → Int) (m : Nat) (g : Nat → Nat → Nat → Int) (e h : Nat → Nat → Int) : Nat → Nat → (Nat → Int) → Nat → Int
  | 0, _, L => L
  | r + 1, d, L => zPs bears pot c (g d) m 0 (zTd bears pot (e d) (h d) (zDs bears pot c m g e h r (d + 1) L))
theorem q_living {a : Int} {V J : Nat → Nat → Int} {R : Nat → Nat → Nat} {h : Nat} (hx : f_s_living V J R a) (hS : zCs V J R h) (hm : zCm V J R h (fun _ => 1) ≤ 1000000000000000000) : a = zCm V J R h (alv (V 98 13)) := by
  obtain ⟨hR, e4, c0, e5, z1⟩ := hS
  unfold f_s_living at hx
  obtain ⟨b, hb, hx⟩ := lop2_g hx
  have le1 : ∀ i : Nat, i ≤ h → 0 ≤ zsm (fun j => J (R 98 0) (V (R 98 2) j).toNat * alv (V 98 13) (V (R 98 2) j).toNat) i ∧ zsm (fun j => J (R 98 0) (V (R 98 2) j).toNat * alv (V 98 13) (V (R 98 2) j).toNat) i ≤ zsm (fun j => J (R 98 0) (V (R 98 2) j).toNat * 1) i := by
    intro i
    induction i with
    | zero => intro _; exact ⟨Int.le_refl _, Int.le_refl _⟩
    | succ i ih =>
      intro hi
      have k := ih (by omega)
      have w := (c0.1 i (by omega)).2.2
      have st : 0 ≤ J (R 98 0) (V (R 98 2) i).toNat * alv (V 98 13) (V (R 98 2) i).toNat ∧ J (R 98 0) (V (R 98 2) i).toNat * alv (V 98 13) (V (R 98 2) i).toNat ≤ J (R 98 0) (V (R 98 2) i).toNat * 1 := by
        unfold alv
        split <;> omega
      show 0 ≤ zsm _ i + J (R 98 0) (V (R 98 2) i).toNat * alv (V 98 13) (V (R 98 2) i).toNat ∧ zsm _ i + J (R 98 0) (V (R 98 2) i).toNat * alv (V 98 13) (V (R 98 2) i).toNat ≤ zsm _ i + J (R 98 0) (V (R 98 2) i).toNat * 1
      omega
  have key : ∀ (m i : Nat) (acc : Int), i ≤ h → acc = zsm (fun j => J (R 98 0) (V (R 98 2) j).toNat * alv (V 98 13) (V (R 98 2) j).toNat) i → lop2 m b (i : Int) acc a → a = zCm V J R h (alv (V 98 13)) := by
    intro m
    induction m with
    | zero => intro i acc _ _ h; exact False.elim h
    | succ m ih =>
      intro i acc hi ha hx
      rw [lop2_s hb] at hx
      obtain ⟨-, hx⟩ := hx
      rw [e4] at hx
      by_cases g : (h : Int) ≤ i
      · rw [if_pos g] at hx
        have hx : a = acc := hx
        have ei : i = h := by omega
        subst ei
        rw [hx, ha]
        rfl
      · rw [if_neg g] at hx
        obtain ⟨s1, s2, s3⟩ := c0.1 i (by omega)
        simp only [rdb, jnk] at hx
        rw [Int.toNat_natCast] at hx
        obtain ⟨-, hx⟩ := hx
        have b1 := le1 i (by omega)
        have b2 := le1 (i + 1) (by omega)
        have b3 := sm_le (f := fun j => J (R 98 0) (V (R 98 2) j).toNat * 1) (i := i + 1) (n := h) (fun j hj => by
          have := (c0.1 j hj).2.2
          show 0 ≤ J (R 98 0) (V (R 98 2) j).toNat * 1
          omega) (by omega)
        have b4 : zsm (fun j => J (R 98 0) (V (R 98 2) j).toNat * 1) h ≤ 1000000000000000000 := hm
        have nxt : zsm (fun j => J (R 98 0) (V (R 98 2) j).toNat * alv (V 98 13) (V (R 98 2) j).toNat) (i + 1) = zsm (fun j => J (R 98 0) (V (R 98 2) j).toNat * alv (V 98 13) (V (R 98 2) j).toNat) i + J (R 98 0) (V (R 98 2) i).toNat * alv (V 98 13) (V (R 98 2) i).toNat := rfl
        generalize V (R 98 2) i = sI at hx s1 s2 s3 nxt
        obtain ⟨s, rfl⟩ : ∃ s : Nat, sI = (s : Int) := ⟨sI.toNat, by omega⟩
        have hs : s < 475 := by omega
        rw [iDiv_p (by omega) (by decide), Int.toNat_natCast] at hx
        rw [Int.toNat_natCast] at s3 nxt
        obtain ⟨-, zd, hzd, -, hx⟩ := hx
        have hzd := q_sDedS hzd
        have fin : ∀ v : Int, v = J (R 98 0) s * alv (V 98 13) s → lop2 m b ((i : Int) + 1) (wrJ (acc + v)) a → a = zCm V J R h (alv (V 98 13)) := fun v hv hx => by
          rw [show ((i : Int) + 1) = ((i + 1 : Nat) : Int) by omega, zWj ⟨by omega, by omega⟩] at hx
          exact ih (i + 1) _ (by omega) (by omega) hx
        by_cases gd : zd = 0
        · rw [if_pos gd] at hx
          refine fin _ ?_ hx
          unfold alv
          rw [if_neg (by
            rcases hzd with ⟨e, -⟩ | ⟨-, e⟩
            · omega
            · exact e)]
          omega
        · rw [if_neg gd] at hx
          refine fin _ ?_ hx
          unfold alv
          rw [if_pos (by
            rcases hzd with ⟨-, e⟩ | ⟨e, -⟩
            · exact e
            · omega)]
          omega
  exact key 477 0 0 (Nat.zero_le _) rfl hx
/-- all is as it was on a way through the DAYS -/
def zFz (V U : Nat → Nat → Int) (R R2 : Nat → Nat → Nat) : Prop := zFc V U ∧ (∀ k : Nat, k ≠ 4 → k ≠ 5 → U 98 k = V 98 k) ∧ ∀ i : Nat, i ≠ 98 → R2 i = R i
theorem zFz.tr {V U X : Nat → Nat → Int} {R R2 R3 : Nat → Nat → Nat} (h : zFz V U R R2) (h1 : zFc U X) (h2 : ∀ k : Nat, k ≠ 4 → k ≠ 5 → X 98 k = U 98 k) (h3 : ∀ i : Nat, i ≠ 98 → R3 i = R2 i) : zFz V X R R3 := ⟨fun i i1 i2 i3 i4 i5 i6 => (h1 i i1 i2 i3 i4 i5 i6).trans (h.1 i i1 i2 i3 i4 i5 i6), fun k k1 k2 => (h2 k k1 k2).trans (h.2.1 k k1 k2), fun i hi => (h3 i hi).trans (h.2.2 i hi)⟩
theorem zFz.as {V U X : Nat → Nat → Int} {R R2 : Nat → Nat → Nat} (h : zFz V U R R2) (h1 : ∀ i : Nat, i ≠ 69 → i ≠ 70 → i ≠ 71 → X i = U i) : zFz V X R R2 := h.tr (fun i i1 i2 i3 _ _ _ => h1 i i1 i2 i3) (fun k _ _ => by rw [h1 98 (by decide) (by decide) (by decide)]) (fun _ _ => rfl)
theorem zCs.as {V J U : Nat → Nat → Int} {R : Nat → Nat → Nat} {h : Nat} (hS : zCs V J R h) (h1 : ∀ i : Nat, i ≠ 69 → i ≠ 70 → i ≠ 71 → U i = V i) : zCs U J R h ∧ ∀ L : Nat → Int, zCm U J R h L = zCm V J R h L := by
  obtain ⟨hR, e4, c0, e5, z1⟩ := hS
  have e2 : U (R 98 2) = V (R 98 2) := by
    rcases hR.1.2.2.1 with e | e <;> rw [e] <;> exact h1 _ (by decide) (by decide) (by decide)
  have e8 : U 98 = V 98 := h1 98 (by decide) (by decide) (by decide)
  exact ⟨⟨hR, by rw [e8]; exact e4, by rw [e2]; exact c0, by rw [e8]; exact e5, z1⟩, fun L => by unfold zCm; rw [e2]⟩
end
section
-- the reference's states; what is felt in one (own work)
/-- the first side's state: q by the reference's code, so WET -/
def zK (q x : Nat) : Nat := 25 * (if q < 10 then q else q - 1) + x
def dryR (k : Nat) : Int := if 10 ≤ (k : Int) % 20 then 0 else (k : Int) % 20
def drnR (k : Nat) : Int := if 10 ≤ (k : Int) % 20 then (k : Int) % 20 - 10 else 0
theorem zK_r {q x : Nat} (hq : q < 20) (hx : x < 25) : zK q x < 475 ∧ (zK q x : Int) % 25 = x ∧ (zK q x : Int) / 25 = if q < 10 then (q : Int) else (q : Int) - 1 := by
  unfold zK
  split
  · omega
  · omega
theorem zK_d {k x : Nat} (hk : k % 20 ≠ 10) (hx : x < 25) : dryS (zK (k % 20) x) = dryR k ∧ drnS (zK (k % 20) x) = drnR k := by
  obtain ⟨a, b, c⟩ := zK_r (q := k % 20) (x := x) (by omega) hx
  unfold dryS drnS dryR drnR
  rw [c]
  by_cases g : k % 20 < 10
  · rw [if_pos g, if_neg (by omega), if_neg (by omega), if_pos (by omega), if_neg (by omega)]
    omega
  · rw [if_neg g, if_pos (by omega), if_pos (by omega), if_neg (by omega), if_pos (by omega)]
    omega
theorem zK_ded {bears : Int} {q x y : Nat} (hq : q < 20) (hx : x < 25) (hy : y < 25) : dedS bears (zK q x) ↔ dedS bears (zK q y) := by
  obtain ⟨a, b, c⟩ := zK_r (q := q) (x := x) hq hx
  obtain ⟨d, e, f⟩ := zK_r (q := q) (x := y) hq hy
  unfold dedS dryS drnS
  rw [c, f]
theorem zK_to {pot : Int} {q x : Nat} {g : Int} (hq : q < 20) (hx : x < 25) (hp : 0 ≤ pot ∧ pot ≤ 24) (hg : 0 ≤ g) : toS pot (zK q x) g = zK q (min pot ((x : Int) + g)).toNat := by
  obtain ⟨a, b, c⟩ := zK_r (q := q) (x := x) hq hx
  obtain ⟨d, e, f, i⟩ := toS_r (pot := pot) (s := zK q x) (g := g) a hp hg
  unfold zK at *
  split at * <;> omega
theorem q_dryIn {k : Nat} {r : Int} (hk : k < 500) (h : f_m_dryIn (k : Int) r) : r = dryR k := by
  unfold f_m_dryIn at h
  rw [iRem_p (by omega) (by decide)] at h
  obtain ⟨-, h⟩ := h
  unfold dryR
  by_cases g : 10 ≤ (k : Int) % 20
  · rw [if_pos g] at h ⊢; exact h
  · rw [if_neg g] at h ⊢
    obtain ⟨-, h⟩ := h
    exact h
theorem q_drownedIn {k : Nat} {r : Int} (hk : k < 500) (h : f_m_drownedIn (k : Int) r) : r = drnR k := by
  unfold f_m_drownedIn at h
  rw [iRem_p (by omega) (by decide)] at h
  obtain ⟨-, h⟩ := h
  unfold drnR
  by_cases g : 10 ≤ (k : Int) % 20
  · rw [if_pos g] at h ⊢
    obtain ⟨-, h⟩ := h
    exact h
  · rw [if_neg g] at h ⊢; exact h
theorem q_feelsState {k x l : Nat} {V J U : Nat → Nat → Int} {R : Nat → Nat → Nat} (hk : k < 500) (hl : V 0 33 = (l : Int)) (hl4 : l < 4) (h : f_m_feelsState (k : Int) (x : Int) V J R U) : (∀ i : Nat, i ≠ 18 → U i = V i) ∧ U 18 0 = V 1 79 ∧ U 18 1 = iRem (V 1 79) 7 ∧ U 18 2 = l ∧ U 18 3 = V 1 l ∧ U 18 4 = x ∧ U 18 5 = V 0 34 ∧ U 18 6 = dryR k ∧ U 18 7 = drnR k ∧ U 18 8 = 0 ∧ U 18 9 = 0 ∧ U 18 10 = cnt (V 1 78) ∧ U 18 11 = 99 ∧ U 18 12 = 0 := by
  unfold f_m_feelsState at h
  rw [hl] at h
  obtain ⟨-, V2, h2, -, h⟩ := h
  obtain ⟨a1, ⟨a2, a3, a4⟩, ⟨a5, a6, a7, a8, a9, a10, a11⟩, a12, a13, a14⟩ := q_feelsPlant h2 ⟨by omega, by omega⟩
  rw [Int.toNat_natCast] at a6
  obtain ⟨V3, e3, h⟩ := rdb_g h
  obtain ⟨z4, e4, h⟩ := rdb_g h
  rw [← e3, up2_c _ _ (by decide), a1 0 (by decide)] at e4
  subst e4
  obtain ⟨V5, e5, h⟩ := rdb_g h
  obtain ⟨z6, k6, -, h⟩ := h
  have k6 := q_dryIn hk k6
  subst k6
  obtain ⟨V7, e7, h⟩ := rdb_g h
  obtain ⟨z8, k8, -, h⟩ := h
  have k8 := q_drownedIn hk k8
  subst k8
  obtain ⟨V9, e9, h⟩ := rdb_g h
  obtain ⟨V10, e10, h⟩ := rdb_g h
  have h : U = V10 := h
  have hU : U = up2 (up2 (up2 (up2 (up2 V2 18 4 (x : Int)) 18 5 (V 0 34)) 18 6 (dryR k)) 18 7 (drnR k)) 18 11 99 := by rw [h, ← e10, ← e9, ← e7, ← e5, ← e3]
  clear h e10 e9 e7 e5 e3
  subst hU
  have o : ∀ j : Nat, j ≠ 4 → j ≠ 5 → j ≠ 6 → j ≠ 7 → j ≠ 11 → up2 (up2 (up2 (up2 (up2 V2 18 4 (x : Int)) 18 5 (V 0 34)) 18 6 (dryR k)) 18 7 (drnR k)) 18 11 99 18 j = V2 18 j := fun j j1 j2 j3 j4 j5 => by rw [up2_n _ _ (Or.inr j5), up2_n _ _ (Or.inr j4), up2_n _ _ (Or.inr j3), up2_n _ _ (Or.inr j2), up2_n _ _ (Or.inr j1)]
  refine ⟨fun i hi => ?_, ?_, ?_, ?_, ?_, ?_, ?_, ?_, ?_, ?_, ?_, ?_, ?_, ?_⟩
  · rw [up2_c _ _ hi, up2_c _ _ hi, up2_c _ _ hi, up2_c _ _ hi, up2_c _ _ hi]; exact a1 i hi
  · rw [o 0 (by decide) (by decide) (by decide) (by decide) (by decide)]; exact a2
  · rw [o 1 (by decide) (by decide) (by decide) (by decide) (by decide)]; exact a3
  · rw [o 2 (by decide) (by decide) (by decide) (by decide) (by decide)]; exact a5
  · rw [o 3 (by decide) (by decide) (by decide) (by decide) (by decide)]; exact a6
  · rw [up2_n _ _ (Or.inr (by decide)), up2_n _ _ (Or.inr (by decide)), up2_n _ _ (Or.inr (by decide)), up2_n _ _ (Or.inr (by decide)), up2_s]
  · rw [up2_n _ _ (Or.inr (by decide)), up2_n _ _ (Or.inr (by decide)), up2_n _ _ (Or.inr (by decide)), up2_s]
  · rw [up2_n _ _ (Or.inr (by decide)), up2_n _ _ (Or.inr (by decide)), up2_s]
  · rw [up2_n _ _ (Or.inr (by decide)), up2_s]
  · rw [o 8 (by decide) (by decide) (by decide) (by decide) (by decide)]; exact a12
  · rw [o 9 (by decide) (by decide) (by decide) (by decide) (by decide)]; exact a13
  · rw [o 10 (by decide) (by decide) (by decide) (by decide) (by decide)]; exact a4
  · rw [up2_s]
  · rw [o 12 (by decide) (by decide) (by decide) (by decide) (by decide)]; exact a14
/-- what the reference's way through the DAYS is of: PLANT l; all on a DAY as it stands -/
def zRw2 (Rx : Nat → Nat → Nat) (Vx W : Nat → Nat → Int) (l : Nat) (fx : Int) : Prop :=
  RTx Rx Vx W ∧ zLq Vx ∧ W 0 33 = (l : Int) ∧ l < 4 ∧ (0 ≤ W 1 l ∧ W 1 l ≤ 24) ∧ (0 ≤ W 0 34 ∧ W 0 34 ≤ 24) ∧ (0 ≤ W 1 79 ∧ W 1 79 ≤ 10010) ∧ ((W 0 31 = -1 ∧ fx = 0) ∨ (1 ≤ W 0 31 ∧ W 0 31 ≤ 9 ∧ fx = W 0 31))
theorem zRw2.cg {Rx : Nat → Nat → Nat} {Vx W X : Nat → Nat → Int} {l : Nat} {fx : Int} (h : zRw2 Rx Vx W l fx) (hX : ∀ i : Nat, i ≠ 17 → i ≠ 18 → X i = W i) : zRw2 Rx Vx X l fx := by
  obtain ⟨h1, h2, h3⟩ := h
  refine ⟨h1.cg (fun _ _ _ _ => rfl) (fun i i1 i2 => hX i (by omega) (by omega)), h2, ?_⟩
  rw [hX 0 (by decide) (by decide), hX 1 (by decide) (by decide)]
  exact h3
/-- what one gives in a state, by the reference's numbers -/
def gvR (Rx : Nat → Nat → Nat) (Vx W : Nat → Nat → Int) (l : Nat) (fx : Int) (i s : Nat) : Int := gvS Vx (Rx 66 (W 1 (60 + (W 20 i).toNat)).toNat) l (W 1 l) (W 0 34) (W 1 79) (cnt (W 1 78)) (W 20 i) (W 21 i) fx (W 0 32) s
def goR (Rx : Nat → Nat → Nat) (Vx W : Nat → Nat → Int) (l : Nat) (lt : Int) (s : Nat) : Int := goS Vx (Rx 60 0) lt l (W 1 l) (W 0 34) (W 1 79) (cnt (W 1 78)) s
theorem zRb_m {Rx : Nat → Nat → Nat} {Vx W : Nat → Nat → Int} {l : Nat} {fx p t : Int} (h : zRw2 Rx Vx W l fx) (hp : R32 p) (ht : R32 t) : zRb l (W 1 l) (W 0 34) (W 1 79) (cnt (W 1 78)) p t := by
  obtain ⟨-, -, h3, h4, h5, h6, h7, -⟩ := h
  have c := cnt_r (W 1 78)
  exact ⟨⟨by omega, by omega⟩, ⟨by omega, by omega⟩, ⟨by omega, by omega⟩, ⟨by omega, by omega⟩, ⟨by omega, by omega⟩, hp, ht⟩
theorem q_cupsIn {k x i l : Nat} {fx a : Int} {Vx W J X : Nat → Nat → Int} {Rx R : Nat → Nat → Nat} (hk : k < 500) (hk10 : k % 20 ≠ 10) (hx : x < 25) (h : zRw2 Rx Vx W l fx) (ht : 0 ≤ W 21 i ∧ W 21 i ≤ 10) (hm : f_m_cupsIn (k : Int) (x : Int) (i : Int) W J R (a, X)) : a = gvR Rx Vx W l fx i (zK (k % 20) x) ∧ ∀ j : Nat, j ≠ 17 → j ≠ 18 → X j = W j := by
  have h0 := h
  obtain ⟨h1, h2, h3, h4, h5, h6, h7, h8⟩ := h
  obtain ⟨zr, zm, -⟩ := zK_r (q := k % 20) (x := x) (by omega) hx
  obtain ⟨zd, zn⟩ := zK_d hk10 hx
  unfold f_m_cupsIn at hm
  obtain ⟨z1, e1, hm⟩ := rdb_g hm
  subst e1
  obtain ⟨-, hm⟩ := hm
  unfold gvR gvS
  by_cases g : W 0 31 = -1
  · rw [if_pos g] at hm
    have f0 : fx ≤ 0 := by omega
    rw [if_pos f0]
    obtain ⟨V3, k3, -, hm⟩ := hm
    obtain ⟨s1, s2⟩ := q_feelsState hk h3 h4 k3
    obtain ⟨w, e4, hm⟩ := rdb_g hm
    rw [s1 20 (by decide), Int.toNat_natCast] at e4
    subst e4
    obtain ⟨wr, hm⟩ := hm
    obtain ⟨V5, e5, hm⟩ := rdb_g hm
    obtain ⟨t, e6, hm⟩ := rdb_g hm
    rw [← e5, up2_c _ _ (by decide), s1 21 (by decide), Int.toNat_natCast] at e6
    subst e6
    obtain ⟨V7, e7, hm⟩ := rdb_g hm
    obtain ⟨r, e8, hm⟩ := rdb_g hm
    rw [← e7, up2_c _ _ (by decide), ← e5, up2_c _ _ (by decide), s1 1 (by decide), show (W 20 i + 60).toNat = 60 + (W 20 i).toNat by omega] at e8
    subst e8
    obtain ⟨rr, hm⟩ := hm
    obtain ⟨z9, V9, k9, -, -, hm⟩ := hm
    simp only [rtn, Prod.mk.injEq] at hm
    obtain ⟨rfl, rfl⟩ := hm
    have f7 : ∀ j : Nat, j ≠ 18 → V7 j = W j := fun j hj => by rw [← e7, up2_c _ _ hj, ← e5, up2_c _ _ hj]; exact s1 j hj
    have hT := h1.cg (Ux := Vx) (Um := V7) (fun _ _ _ _ => rfl) (fun i i1 i2 => f7 i (by omega))
    have hrr := hT.2 (W 1 (60 + (W 20 i).toNat)).toNat (by omega)
    rw [show W 1 (60 + (W 20 i).toNat) + 1 = (((W 1 (60 + (W 20 i).toNat)).toNat + 1 : Nat) : Int) by omega] at k9
    have o : ∀ j : Nat, j ≠ 8 → j ≠ 9 → V7 18 j = V3 18 j := fun j j1 j2 => by rw [← e7, up2_n _ _ (Or.inr j2), ← e5, up2_n _ _ (Or.inr j1)]
    have v8 : V7 18 8 = W 20 i := by rw [← e7, up2_n _ _ (Or.inr (by decide)), ← e5, up2_s]
    have v9 : V7 18 9 = W 21 i := by rw [← e7, up2_s]
    obtain ⟨c1, c2⟩ := m_tells (row := rowC l (W 1 l) (W 0 34) (W 1 79) (cnt (W 1 78)) (W 20 i) (W 21 i) ((zK (k % 20) x : Int) % 25) (dryS (zK (k % 20) x)) (drnS (zK (k % 20) x))) hrr.1 (by omega) hrr.2 h2 (rowC_fc (by
      rw [v8, v9, o 0 (by decide) (by decide), o 1 (by decide) (by decide), o 2 (by decide) (by decide), o 3 (by decide) (by decide), o 4 (by decide) (by decide), o 5 (by decide) (by decide), o 6 (by decide) (by decide), o 7 (by decide) (by decide), o 10 (by decide) (by decide), o 11 (by decide) (by decide), o 12 (by decide) (by decide), zm, zd, zn]
      obtain ⟨d0, d1, d2, d3, d4, d5, d6, d7, d8, d9, d10, d11, d12⟩ := s2
      exact ⟨d0, d1, d2, d3, d4, d5, d6, d7, rfl, rfl, d10, d11, d12⟩)) (rowC_s (zRb_m h0 ⟨by omega, by omega⟩ ⟨by omega, by omega⟩) zr) (by decide) k9
    exact ⟨c1, fun j j1 j2 => by rw [c2 j j1]; exact f7 j j2⟩
  · rw [if_neg g] at hm
    have f0 : ¬ fx ≤ 0 := by omega
    rw [if_neg f0, zm]
    obtain ⟨z, e, hm⟩ := rdb_g hm
    subst e
    by_cases g2 : W 0 32 ≤ (x : Int)
    · rw [if_pos g2] at hm ⊢
      simp only [rtn, Prod.mk.injEq] at hm
      exact ⟨hm.1, fun _ _ _ => by rw [hm.2]⟩
    · rw [if_neg g2] at hm ⊢
      simp only [rtn, Prod.mk.injEq] at hm
      exact ⟨by rw [hm.1]; omega, fun _ _ _ => by rw [hm.2]⟩
end
section
-- the reference: from one state, who comes by (own work)
theorem fill_loop {ρ : Type} {b : (Int → (Nat → Nat → Int) → ρ → Prop) → Int → (Nat → Nat → Int) → ρ → Prop} {K : (Nat → Nat → Int) → ρ → Prop} {p N : Nat} {F : Nat → Int} {Z : Nat → Nat → Int} {r : ρ}
    (hs : ∀ (rc : Int → (Nat → Nat → Int) → ρ → Prop) (x : Nat) (Y : Nat → Nat → Int), x < N → (∀ i : Nat, i ≠ p → Y i = Z i) → b rc (x : Int) Y r → rc ((x + 1 : Nat) : Int) (up2 Y p x (F x)) r)
    (he : ∀ (rc : Int → (Nat → Nat → Int) → ρ → Prop) (Y : Nat → Nat → Int), b rc (N : Int) Y r → K Y r) : ∀ m : Nat, lop2 m b ((0 : Nat) : Int) Z r → ∃ Y : Nat → Nat → Int, K Y r ∧ (∀ x : Nat, x < N → Y p x = F x) ∧ ∀ i : Nat, i ≠ p → Y i = Z i := by
  have key : ∀ (m x : Nat) (Y : Nat → Nat → Int), x ≤ N → (∀ y : Nat, y < x → Y p y = F y) → (∀ i : Nat, i ≠ p → Y i = Z i) → lop2 m b (x : Int) Y r → ∃ Y : Nat → Nat → Int, K Y r ∧ (∀ x : Nat, x < N → Y p x = F x) ∧ ∀ i : Nat, i ≠ p → Y i = Z i := by
    intro m
    induction m with
    | zero => intro x Y _ _ _ h; exact False.elim h
    | succ m ih =>
      intro x Y hx hf ho h
      have h : b (lop2 m b) (x : Int) Y r := h
      by_cases e : x = N
      · subst e
        exact ⟨Y, he _ Y h, hf, ho⟩
      · refine ih (x + 1) _ (by omega) (fun y hy => ?_) (fun i hi => ?_) (hs _ x Y (by omega) ho h)
        · rw [up2_row]
          by_cases k : y = x
          · subst k; rw [up1_s]
          · rw [up1_n _ _ k]; exact hf y (by omega)
        · rw [up2_c _ _ hi]; exact ho i hi
  exact fun m h => key m 0 Z (Nat.zero_le _) (fun y hy => by omega) (fun _ _ => rfl) h
/-- weights by WET, of one code -/
def zW (N : Nat → Int) (q : Nat) (L : Nat → Int) : Int := zsm (fun x => N x * L (zK q x)) 25
theorem zW_c {N M : Nat → Int} {q : Nat} {L : Nat → Int} (h : ∀ x : Nat, x < 25 → N x = M x) : zW N q L = zW M q L := sm_c fun x hx => by
  rw [h x hx]
/-- one cell more -/
theorem zW_u {N : Nat → Int} {q y : Nat} {d : Int} {L : Nat → Int} (hy : y < 25) : zW (up1 N y (N y + d)) q L = zW N q L + d * L (zK q y) := sm_u hy (by
  show up1 N y (N y + d) y * L (zK q y) = N y * L (zK q y) + d * L (zK q y)
  rw [up1_s, Int.add_mul]) fun j hj hn => by
  show up1 N y (N y + d) j * L (zK q j) = N j * L (zK q j)
  rw [up1_n _ _ hn]
theorem q_comesBy {k m l : Nat} {fx : Int} {Vx W J X J2 : Nat → Nat → Int} {Rx R R2 : Nat → Nat → Nat} (hk : k < 500) (hk10 : k % 20 ≠ 10) (hm3 : m ≤ 3) (h : zRw2 Rx Vx W l fx) (hfx : fx ≤ 9) (ht : ∀ i : Nat, i < m → 0 ≤ W 21 i ∧ W 21 i ≤ 10) {bears : Int} (hal : ¬ dedS bears (zK (k % 20) (k / 20))) (hw : 0 ≤ J 22 k) (hb : p10 m * J 22 k ≤ 1000000000000000000) (hm : f_m_comesBy (k : Int) (m : Int) W J R (X, J2, R2)) :
    (∀ x : Nat, x < 25 → 0 ≤ J2 24 x) ∧ (∀ L : Nat → Int, zW (J2 24) (k % 20) L = J 22 k * zPs bears (W 1 l) (fun i => W 21 i) (gvR Rx Vx W l fx) m 0 L (zK (k % 20) (k / 20))) ∧ (∀ j : Nat, j ≠ 17 → j ≠ 18 → X j = W j) ∧ ∀ j : Nat, j ≠ 24 → j ≠ 25 → J2 j = J j := by
  have hpot := h.2.2.2.2.1
  have h33 := h.2.2.1
  have hl4 := h.2.2.2.1
  have hq20 : k % 20 < 20 := by omega
  have hx0 : k / 20 < 25 := by omega
  unfold f_m_comesBy at hm
  obtain ⟨b, hb0, hm⟩ := lop2_g hm
  -- the weight at its WET
  obtain ⟨Z, hm, z1, z2⟩ := fill_loop (N := 25) (p := 24) (F := fun x => if x = k / 20 then J 22 k else 0) (K := fun J25101 => lop3 5 (fun rc45994 (z45993 : Int) (V45994 : Nat → Nat → Int) (J45994 : Nat → Nat → Int) => (if (m : Int) ≤ z45993 then rtn (V45994, J45994, R) else lop2 (27) (fun rc49134 (z49133 : Int) (J49134 : Nat → Nat → Int) => (if 24 < z49133 then lop3 (27) (fun rc49969 (z49968 : Int) (V49969 : Nat → Nat → Int) (J49969 : Nat → Nat → Int) => (if 24 < z49968 then lop2 (27) (fun rc50121 (z50120 : Int) (J50121 : Nat → Nat → Int) => (if 24 < z50120 then rc45994 (z45993 + 1) V49969 J50121 else rdb (J50121 25 z50120.toNat) fun z50130 => rdb (up2 J50121 24 z50120.toNat z50130) fun J50131 => rc50121 (z50120 + 1) J50131)) 0 J49969 else rdb (J49969 24 z49968.toNat) fun z50132 => jnk (fun (V50147 : Nat → Nat → Int) (J50147 : Nat → Nat → Int) => rc49969 (z49968 + 1) V50147 J50147) fun jf50147 => (if (lcI z50132 0) = 0 then jf50147 V49969 J49969 else rdb (V49969 21 z45993.toNat) fun z50149 => (if ¬ z50149 = 0 then rdb (V49969 0 33) fun z50151 => fct (0 ≤ z50151 ∧ z50151 ≤ 3) <| rdb (V49969 1 z50151.toNat) fun z50152 => fct (0 ≤ z50152 ∧ z50152 ≤ 24) <| calVM 7253554917687775048237056 V49969 (f_m_cupsIn (k : Int) z49968 z45993 V49969 J49969 R) fun z50153 V50153 => fct (0 ≤ z50153 ∧ z50153 ≤ 999) <| calR (f_m_min z50152 (z49968 + z50153)) fun z50154 => rdb (J49969 25 z50154.toNat) fun z50156 => rdb (J49969 24 z49968.toNat) fun z50157 => rdb (V50153 21 z45993.toNat) fun z50158 => rdb (wrJ (z50157 * z50158)) fun z50159 => rdb (wrJ (z50156 + z50159)) fun z50160 => rdb (up2 J49969 25 z50154.toNat z50160) fun J50161 => jf50147 V50153 J50161 else jf50147 V49969 J49969)))) 0 V45994 J49134 else rdb (J49134 24 z49133.toNat) fun z50162 => rdb (V45994 21 z45993.toNat) fun z50163 => rdb (wr (-z50163 + 10)) fun z50164 => rdb (wrJ (z50162 * z50164)) fun z50165 => rdb (up2 J49134 25 z49133.toNat z50165) fun J50166 => rc49134 (z49133 + 1) J50166)) 0 J45994)) 0 W J25101) (fun rc x Y hx hY h => by
      rw [hb0] at h
      rw [if_neg (by omega)] at h
      simp only [rdb, jnk] at h
      rw [iDiv_p (by omega) (by decide), Int.toNat_natCast] at h
      obtain ⟨-, h⟩ := h
      rw [show ((x + 1 : Nat) : Int) = (x : Int) + 1 by omega]
      by_cases e : x = k / 20
      · rw [if_neg (fun hh => hh (by omega)), hY 22 (by decide), Int.toNat_natCast] at h
        rw [if_pos e]
        exact h
      · rw [if_pos (by omega)] at h
        rw [if_neg e]
        exact h) (fun rc Y h => by
      rw [hb0] at h
      rw [if_pos (by decide)] at h
      exact h) 27 hm
  obtain ⟨b2, hb2, hm⟩ := lop3_g hm
  clear hb0
  have e22 : Z 22 = J 22 := z2 22 (by decide)
  have zn : ∀ x : Nat, x < 25 → 0 ≤ Z 24 x := fun x hx => by
    rw [z1 x hx]
    split
    · exact hw
    · decide
  have zL : ∀ L : Nat → Int, zW (Z 24) (k % 20) L = J 22 k * L (zK (k % 20) (k / 20)) := fun L => by
    have u := zW_u (N := fun _ => 0) (q := k % 20) (y := k / 20) (d := J 22 k) (L := L) hx0
    have z0 : zW (fun _ => 0) (k % 20) L = 0 := sm_z fun j _ => Int.zero_mul _
    rw [z0, Int.zero_add, Int.zero_add] at u
    rw [← u]
    refine zW_c fun x hx => ?_
    rw [z1 x hx]
    by_cases e : x = k / 20
    · rw [if_pos e, e, up1_s]
    · rw [if_neg e, up1_n _ _ e]
  have key : ∀ (f i : Nat) (V Y : Nat → Nat → Int), i ≤ m → (∀ j : Nat, j ≠ 17 → j ≠ 18 → V j = W j) → (∀ j : Nat, j ≠ 24 → j ≠ 25 → Y j = J j) → (∀ x : Nat, x < 25 → 0 ≤ Y 24 x) → zW (Y 24) (k % 20) (fun _ => 1) = J 22 k * p10 i → lop3 f b2 (i : Int) V Y (X, J2, R2) →
      (∀ x : Nat, x < 25 → 0 ≤ J2 24 x) ∧ (∀ L : Nat → Int, zW (J2 24) (k % 20) L = zW (Y 24) (k % 20) (zPs bears (W 1 l) (fun i => W 21 i) (gvR Rx Vx W l fx) (m - i) i L)) ∧ (∀ j : Nat, j ≠ 17 → j ≠ 18 → X j = W j) ∧ ∀ j : Nat, j ≠ 24 → j ≠ 25 → J2 j = J j := by
    intro f
    induction f with
    | zero => intro i V Y _ _ _ _ _ h; exact False.elim h
    | succ f ih =>
      intro i V Y hi hV hY hn h1 hx
      rw [lop3_s hb2] at hx
      by_cases g : (m : Int) ≤ i
      · rw [if_pos g] at hx
        simp only [rtn, Prod.mk.injEq] at hx
        obtain ⟨rfl, rfl, rfl⟩ := hx
        have ei : i = m := by omega
        subst ei
        refine ⟨hn, fun L => ?_, hV, hY⟩
        rw [Nat.sub_self]
        rfl
      · rw [if_neg g] at hx
        have him : i < m := by omega
        have ti := ht i him
        have e21 : V 21 = W 21 := hV 21 (by decide) (by decide)
        have pm : p10 (i + 1) ≤ p10 m := by
          rcases (show i = 0 ∨ i = 1 ∨ i = 2 by omega) with rfl | rfl | rfl <;> rcases (show m = 0 ∨ m = 1 ∨ m = 2 ∨ m = 3 by omega) with rfl | rfl | rfl | rfl <;> first | omega | decide
        have mass : 10 * zW (Y 24) (k % 20) (fun _ => 1) ≤ 1000000000000000000 := by
          rw [h1]
          have e : 10 * (J 22 k * p10 i) = J 22 k * p10 (i + 1) := by
            show _ = J 22 k * (10 * p10 i)
            rw [← Int.mul_assoc, Int.mul_comm 10, Int.mul_assoc]
          rw [e]
          have := Int.mul_le_mul_of_nonneg_left pm hw
          rw [Int.mul_comm (J 22 k) (p10 m)] at this
          omega
        have cell : ∀ x : Nat, x < 25 → Y 24 x ≤ zW (Y 24) (k % 20) (fun _ => 1) := fun x hx => by
          have := sm_l (f := fun x => Y 24 x * 1) (n := 25) (fun j hj => by
            have := hn j hj
            show 0 ≤ Y 24 j * 1
            omega) x hx
          have e : zW (Y 24) (k % 20) (fun _ => 1) = zsm (fun x => Y 24 x * 1) 25 := rfl
          rw [e]
          omega
        obtain ⟨b3, hb3, hx⟩ := lop2_g hx
        -- those who don't come
        obtain ⟨Y1, hx, y1, y2⟩ := fill_loop (N := 25) (p := 25) (F := fun x => Y 24 x * (10 - W 21 i)) (K := fun J49134 => lop3 (27) (fun rc49969 (z49968 : Int) (V49969 : Nat → Nat → Int) (J49969 : Nat → Nat → Int) => (if 24 < z49968 then lop2 (27) (fun rc50121 (z50120 : Int) (J50121 : Nat → Nat → Int) => (if 24 < z50120 then lop3 f b2 ((i : Int) + 1) V49969 J50121 else rdb (J50121 25 z50120.toNat) fun z50130 => rdb (up2 J50121 24 z50120.toNat z50130) fun J50131 => rc50121 (z50120 + 1) J50131)) 0 J49969 else rdb (J49969 24 z49968.toNat) fun z50132 => jnk (fun (V50147 : Nat → Nat → Int) (J50147 : Nat → Nat → Int) => rc49969 (z49968 + 1) V50147 J50147) fun jf50147 => (if (lcI z50132 0) = 0 then jf50147 V49969 J49969 else rdb (V49969 21 (i : Int).toNat) fun z50149 => (if ¬ z50149 = 0 then rdb (V49969 0 33) fun z50151 => fct (0 ≤ z50151 ∧ z50151 ≤ 3) <| rdb (V49969 1 z50151.toNat) fun z50152 => fct (0 ≤ z50152 ∧ z50152 ≤ 24) <| calVM 7253554917687775048237056 V49969 (f_m_cupsIn (k : Int) z49968 (i : Int) V49969 J49969 R) fun z50153 V50153 => fct (0 ≤ z50153 ∧ z50153 ≤ 999) <| calR (f_m_min z50152 (z49968 + z50153)) fun z50154 => rdb (J49969 25 z50154.toNat) fun z50156 => rdb (J49969 24 z49968.toNat) fun z50157 => rdb (V50153 21 (i : Int).toNat) fun z50158 => rdb (wrJ (z50157 * z50158)) fun z50159 => rdb (wrJ (z50156 + z50159)) fun z50160 => rdb (up2 J49969 25 z50154.toNat z50160) fun J50161 => jf50147 V50153 J50161 else jf50147 V49969 J49969)))) 0 V J49134) (fun rc x Q hx hQ h => by
            rw [hb3] at h
            rw [if_neg (by omega)] at h
            simp only [rdb] at h
            rw [Int.toNat_natCast, Int.toNat_natCast, hQ 24 (by decide), e21, wr_id (z := -W 21 i + 10) ⟨by omega, by omega⟩, show -W 21 i + 10 = 10 - W 21 i by omega] at h
            have mb := mul_b (a := Y 24 x) (b := 10 - W 21 i) (hn x hx) (by omega)
            have cx := cell x hx
            rw [zWj ⟨by omega, by omega⟩] at h
            rw [show ((x + 1 : Nat) : Int) = (x : Int) + 1 by omega]
            exact h) (fun rc Q h => by
            rw [hb3] at h
            rw [if_pos (by decide)] at h
            exact h) 27 hx
        clear hb3
        obtain ⟨b4, hb4, hx⟩ := lop3_g hx
        have y24 : Y1 24 = Y 24 := y2 24 (by decide)
        have gr : ∀ x : Nat, 0 ≤ gvR Rx Vx W l fx i (zK (k % 20) x) := fun x => (gvS_r hfx).1
        -- those who come
        have come : ∀ (f2 x : Nat) (V2 Q : Nat → Nat → Int), x ≤ 25 → (∀ j : Nat, j ≠ 17 → j ≠ 18 → V2 j = W j) → (∀ j : Nat, j ≠ 25 → Q j = Y1 j) → (∀ y : Nat, y < 25 → 0 ≤ Q 25 y) → (∀ L : Nat → Int, zW (Q 25) (k % 20) L = zsm (fun y => Y 24 y * ((10 - W 21 i) * L (zK (k % 20) y))) 25 + zsm (fun y => Y 24 y * (W 21 i * L (toS (W 1 l) (zK (k % 20) y) (gvR Rx Vx W l fx i (zK (k % 20) y))))) x) → lop3 f2 b4 (x : Int) V2 Q (X, J2, R2) →
            ∃ V3 Q3 : Nat → Nat → Int, lop3 f b2 ((i : Int) + 1) V3 Q3 (X, J2, R2) ∧ (∀ j : Nat, j ≠ 17 → j ≠ 18 → V3 j = W j) ∧ (∀ j : Nat, j ≠ 24 → j ≠ 25 → Q3 j = J j) ∧ (∀ y : Nat, y < 25 → 0 ≤ Q3 24 y) ∧ ∀ L : Nat → Int, zW (Q3 24) (k % 20) L = zsm (fun y => Y 24 y * ((10 - W 21 i) * L (zK (k % 20) y))) 25 + zsm (fun y => Y 24 y * (W 21 i * L (toS (W 1 l) (zK (k % 20) y) (gvR Rx Vx W l fx i (zK (k % 20) y))))) 25 := by
          intro f2
          induction f2 with
          | zero => intro x V2 Q _ _ _ _ _ h; exact False.elim h
          | succ f2 ih2 =>
            intro x V2 Q hx25 hV2 hQ hQn hQL hx
            rw [lop3_s hb4] at hx
            by_cases gx : (24 : Int) < x
            · rw [if_pos gx] at hx
              have ex : x = 25 := by omega
              subst ex
              obtain ⟨b5, hb5, hx⟩ := lop2_g hx
              obtain ⟨Q3, hx, q1, q2⟩ := fill_loop (N := 25) (p := 24) (F := fun x => Q 25 x) (K := fun J50121 => lop3 f b2 ((i : Int) + 1) V2 J50121) (fun rc x S hx hS h => by
                rw [hb5] at h
                rw [if_neg (by omega)] at h
                simp only [rdb] at h
                rw [Int.toNat_natCast, hS 25 (by decide)] at h
                rw [show ((x + 1 : Nat) : Int) = (x : Int) + 1 by omega]
                exact h) (fun rc S h => by
                rw [hb5] at h
                rw [if_pos (by decide)] at h
                exact h) 27 hx
              refine ⟨V2, Q3, hx, hV2, fun j j1 j2 => ?_, fun y hy => ?_, fun L => ?_⟩
              · rw [q2 j j1, hQ j j2, y2 j j2]; exact hY j j1 j2
              · rw [q1 y hy]; exact hQn y hy
              · rw [← hQL L]
                exact zW_c fun x hx => q1 x hx
            · rw [if_neg gx] at hx
              have hxl : x < 25 := by omega
              obtain ⟨w, ew, hx⟩ := rdb_g hx
              rw [Int.toNat_natCast, hQ 24 (by decide), y24] at ew
              subst ew
              have nx : ((x : Int) + 1) = ((x + 1 : Nat) : Int) := by omega
              have stp : ∀ L : Nat → Int, zsm (fun y => Y 24 y * (W 21 i * L (toS (W 1 l) (zK (k % 20) y) (gvR Rx Vx W l fx i (zK (k % 20) y))))) (x + 1) = zsm (fun y => Y 24 y * (W 21 i * L (toS (W 1 l) (zK (k % 20) y) (gvR Rx Vx W l fx i (zK (k % 20) y))))) x + Y 24 x * (W 21 i * L (toS (W 1 l) (zK (k % 20) x) (gvR Rx Vx W l fx i (zK (k % 20) x)))) := fun _ => rfl
              have skip : (∀ L : Nat → Int, Y 24 x * (W 21 i * L (toS (W 1 l) (zK (k % 20) x) (gvR Rx Vx W l fx i (zK (k % 20) x)))) = 0) → lop3 f2 b4 ((x : Int) + 1) V2 Q (X, J2, R2) → _ := fun h0 hx => by
                rw [nx] at hx
                exact ih2 (x + 1) V2 Q (by omega) hV2 hQ hQn (fun L => by rw [stp, h0, Int.add_zero]; exact hQL L) hx
              simp only [jnk] at hx
              by_cases g0 : Y 24 x = 0
              · rw [if_pos ((lcI_eq _ _).mpr g0)] at hx
                exact skip (fun L => by rw [g0, Int.zero_mul]) hx
              rw [if_neg (fun hh => g0 ((lcI_eq _ _).mp hh))] at hx
              obtain ⟨c, ec, hx⟩ := rdb_g hx
              rw [Int.toNat_natCast, hV2 21 (by decide) (by decide)] at ec
              subst ec
              by_cases gc : W 21 i = 0
              · rw [if_neg (fun hh => hh gc)] at hx
                exact skip (fun L => by rw [gc, Int.zero_mul, Int.mul_zero]) hx
              rw [if_pos gc] at hx
              obtain ⟨c1, e1, hx⟩ := rdb_g hx
              rw [hV2 0 (by decide) (by decide), h33] at e1
              subst e1
              obtain ⟨-, hx⟩ := hx
              obtain ⟨c2, e2, hx⟩ := rdb_g hx
              rw [hV2 1 (by decide) (by decide), Int.toNat_natCast] at e2
              subst e2
              obtain ⟨-, hx⟩ := hx
              obtain ⟨gv, V3, kv, -, -, hx⟩ := hx
              have hV2w := h.cg hV2
              obtain ⟨k1, k2⟩ := q_cupsIn hk hk10 hxl hV2w (by rw [hV2 21 (by decide) (by decide)]; exact ti) kv
              have k1 : gv = gvR Rx Vx W l fx i (zK (k % 20) x) := by
                rw [k1]
                unfold gvR
                rw [hV2 0 (by decide) (by decide), hV2 1 (by decide) (by decide), hV2 20 (by decide) (by decide), hV2 21 (by decide) (by decide)]
              subst k1
              obtain ⟨to, kt, hx⟩ := hx
              have kt := q_min kt
              have gx := gr x
              have tr := zK_to (q := k % 20) (x := x) (pot := W 1 l) hq20 hxl hpot gx
              obtain ⟨tn, htn⟩ : ∃ tn : Nat, to = (tn : Int) := ⟨to.toNat, by omega⟩
              have tn25 : tn < 25 := by omega
              have ttn : toS (W 1 l) (zK (k % 20) x) (gvR Rx Vx W l fx i (zK (k % 20) x)) = zK (k % 20) tn := by
                rw [tr, ← kt, htn, Int.toNat_natCast]
              have V32 : ∀ j : Nat, j ≠ 17 → j ≠ 18 → V3 j = W j := fun j j1 j2 => by rw [k2 j j1 j2]; exact hV2 j j1 j2
              simp only [rdb] at hx
              rw [htn, Int.toNat_natCast, Int.toNat_natCast, Int.toNat_natCast, hQ 24 (by decide), y24, V32 21 (by decide) (by decide)] at hx
              have mb := mul_b (a := Y 24 x) (b := W 21 i) (hn x hxl) ti
              have cx := cell x hxl
              rw [zWj (z := Y 24 x * W 21 i) ⟨by omega, by omega⟩] at hx
              -- what is there so far
              have s1 := hQL (fun _ => 1)
              have le1 := sm_le (f := fun y => Y 24 y * (W 21 i * (fun _ => (1 : Int)) (toS (W 1 l) (zK (k % 20) y) (gvR Rx Vx W l fx i (zK (k % 20) y))))) (i := x + 1) (n := 25) (fun j hj => by
                show 0 ≤ Y 24 j * (W 21 i * 1)
                rw [Int.mul_one]
                exact (mul_b (hn j hj) ti).1) (by omega)
              have s2 := stp (fun _ => 1)
              have s3 : zsm (fun y => Y 24 y * ((10 - W 21 i) * (fun _ => (1 : Int)) (zK (k % 20) y))) 25 + zsm (fun y => Y 24 y * (W 21 i * (fun _ => (1 : Int)) (toS (W 1 l) (zK (k % 20) y) (gvR Rx Vx W l fx i (zK (k % 20) y))))) 25 = 10 * zW (Y 24) (k % 20) (fun _ => 1) := by
                rw [← sm_a (k := fun y => 10 * (Y 24 y * 1)) (fun j _ => by
                  dsimp only
                  rw [Int.mul_one, Int.mul_one, Int.mul_one, ← Int.mul_add, show 10 - W 21 i + W 21 i = 10 by omega]
                  omega)]
                exact sm_m fun j _ => rfl
              have cT : Q 25 tn ≤ zW (Q 25) (k % 20) (fun _ => 1) := by
                have := sm_l (f := fun x => Q 25 x * 1) (n := 25) (fun j hj => by
                  have := hQn j hj
                  show 0 ≤ Q 25 j * 1
                  omega) tn tn25
                have e : zW (Q 25) (k % 20) (fun _ => 1) = zsm (fun x => Q 25 x * 1) 25 := rfl
                rw [e]
                omega
              have q0 := hQn tn tn25
              dsimp only at s1 s2 le1 s3
              have s9 : Y 24 x * (W 21 i * 1) = Y 24 x * W 21 i := by rw [Int.mul_one]
              rw [zWj (z := Q 25 tn + Y 24 x * W 21 i) ⟨by omega, by omega⟩, nx] at hx
              refine ih2 (x + 1) V3 _ (by omega) V32 (fun j hj => ?_) (fun y hy => ?_) (fun L => ?_) hx
              · rw [up2_c _ _ hj]; exact hQ j hj
              · rw [up2_row]
                by_cases ey : y = tn
                · subst ey; rw [up1_s]; omega
                · rw [up1_n _ _ ey]; exact hQn y hy
              · rw [up2_row, zW_u tn25, hQL L, stp L, ttn, Int.mul_assoc, Int.add_assoc]
        obtain ⟨V3, Q3, hx, v1, v2, v3, v4⟩ := come 27 0 V Y1 (by omega) hV (fun _ _ => rfl) (fun y hy => by rw [y1 y hy]; exact (mul_b (hn y hy) (by omega)).1) (fun L => by
          show _ = _ + (0 : Int)
          rw [Int.add_zero]
          exact sm_c fun y hy => by rw [y1 y hy, Int.mul_assoc]) hx
        have tog : ∀ L : Nat → Int, zW (Q3 24) (k % 20) L = zW (Y 24) (k % 20) (zTp bears (W 1 l) (W 21 i) (gvR Rx Vx W l fx i) L) := fun L => by
          rw [v4 L, ← sm_a (k := fun y => Y 24 y * zTp bears (W 1 l) (W 21 i) (gvR Rx Vx W l fx i) L (zK (k % 20) y)) (fun j hj => by
            unfold zTp
            rw [if_neg (fun hh => hal ((zK_ded hq20 hj hx0).mp hh)), Int.mul_add])]
          rfl
        rw [show ((i : Int) + 1) = ((i + 1 : Nat) : Int) by omega] at hx
        obtain ⟨w1, w2, w3, w4⟩ := ih (i + 1) V3 Q3 (by omega) v1 v2 v3 (by
          rw [tog]
          have e : zW (Y 24) (k % 20) (zTp bears (W 1 l) (W 21 i) (gvR Rx Vx W l fx i) (fun _ => 1)) = 10 * zW (Y 24) (k % 20) (fun _ => 1) := sm_m fun j _ => by
            rw [zTp_one]
            dsimp only
            omega
          rw [e, h1]
          show _ = J 22 k * (10 * p10 i)
          rw [← Int.mul_assoc, Int.mul_comm 10, Int.mul_assoc]) hx
        refine ⟨w1, fun L => ?_, w3, w4⟩
        rw [w2 L, tog, show m - i = (m - (i + 1)) + 1 by omega]
        rfl
  obtain ⟨w1, w2, w3, w4⟩ := key 5 0 W Z (Nat.zero_le _) (fun _ _ _ => rfl) (fun j j1 _ => z2 j j1) zn (by
    rw [zL]
    rfl) hm
  exact ⟨w1, fun L => by rw [w2 L, Nat.sub_zero, zL], w3, w4⟩
end
section
-- the reference: the sun, or not (own work)
def zKk (k : Nat) : Nat := zK (k % 20) (k / 20)
theorem zK_bh {pot bears less : Int} {k x : Nat} (hk : k < 500) (hk10 : k % 20 ≠ 10) (hx : x < 25) (hp : 4 ≤ pot ∧ pot ≤ 24) (hb : 1 ≤ bears ∧ bears ≤ 9) (hl : 0 ≤ less) {dry drn : Int} (e1 : dry = if max 0 ((x : Int) - less) = 0 then dryR k + 1 else 0) (e2 : drn = if max 0 ((x : Int) - less) = pot then drnR k + 1 else 0) (d1 : 0 ≤ dryR k ∧ dryR k ≤ 9) (d2 : 0 ≤ drnR k ∧ drnR k ≤ 9) :
    ((bears ≤ dry ∨ bears ≤ drn) → dedS bears (bhS pot (zK (k % 20) x) less)) ∧ (dry < bears → drn < bears → ∀ k2 : Nat, (k2 : Int) = 20 * max 0 ((x : Int) - less) + (if drn ≤ 0 then dry else drn + 10) → k2 < 500 ∧ k2 % 20 ≠ 10 ∧ bhS pot (zK (k % 20) x) less = zKk k2 ∧ ¬ dedS bears (zKk k2)) := by
  obtain ⟨zr, zm, -⟩ := zK_r (q := k % 20) (x := x) (by omega) hx
  obtain ⟨zd, zn⟩ := zK_d hk10 hx
  have th : thS (zK (k % 20) x) less = max 0 ((x : Int) - less) := by unfold thS; rw [zm]
  obtain ⟨b1, b2⟩ := bhS_r pot (zK (k % 20) x) hl
  rw [th, zd, zn, ← e1, ← e2] at b1
  have t24 : 0 ≤ max 0 ((x : Int) - less) ∧ max 0 ((x : Int) - less) ≤ 24 := by omega
  generalize max 0 ((x : Int) - less) = f at *
  have r1 : 0 ≤ dry ∧ dry ≤ 10 := by rw [e1]; split <;> omega
  have r2 : 0 ≤ drn ∧ drn ≤ 10 := by rw [e2]; split <;> omega
  have nb : dry = 0 ∨ drn = 0 := by
    rw [e1, e2]
    by_cases g : f = 0
    · rw [if_neg (c := f = pot) (by omega)]; exact Or.inr rfl
    · rw [if_neg g]; exact Or.inl rfl
  generalize bhS pot (zK (k % 20) x) less = s at *
  clear e1 e2 zd zn th zm zr
  refine ⟨fun hd => ?_, fun h1 h2 k2 e => ?_⟩
  · unfold kndS at b1
    unfold dedS dryS drnS
    by_cases g : dry ≤ 0
    · rw [if_pos g, if_neg (by omega)] at b1
      have e : (s : Int) / 25 = min drn 9 + 9 := by omega
      rw [e, if_pos (by omega), if_neg (by omega)]
      omega
    · rw [if_neg g] at b1
      have e : (s : Int) / 25 = min dry 9 := by omega
      rw [e, if_neg (by omega), if_pos (by omega)]
      omega
  · unfold kndS at b1
    by_cases g : dry ≤ 0
    · rw [if_pos g] at b1
      by_cases g2 : drn ≤ 0
      · rw [if_pos g2] at b1 e
        have ek : k2 % 20 = 0 ∧ (k2 / 20 : Int) = f ∧ k2 < 500 := by omega
        have es : s = zKk k2 := by
          unfold zKk zK
          rw [if_pos (by omega)]
          omega
        refine ⟨ek.2.2, by omega, es, ?_⟩
        rw [← es]
        unfold dedS dryS drnS
        rw [show (s : Int) / 25 = 0 by omega, if_neg (by decide), if_pos (by decide)]
        omega
      · rw [if_neg g2] at b1 e
        have ek : (k2 % 20 : Int) = drn + 10 ∧ (k2 / 20 : Int) = f ∧ k2 < 500 := by omega
        have es : s = zKk k2 := by
          unfold zKk zK
          rw [if_neg (by omega)]
          omega
        refine ⟨ek.2.2, by omega, es, ?_⟩
        rw [← es]
        unfold dedS dryS drnS
        rw [show (s : Int) / 25 = drn + 9 by omega, if_pos (by omega), if_neg (by omega)]
        omega
    · rw [if_neg g] at b1
      have g2 : drn ≤ 0 := by omega
      rw [if_pos g2] at e
      have ek : (k2 % 20 : Int) = dry ∧ (k2 / 20 : Int) = f ∧ k2 < 500 := by omega
      have es : s = zKk k2 := by
        unfold zKk zK
        rw [if_pos (by omega)]
        omega
      refine ⟨ek.2.2, by omega, es, ?_⟩
      rw [← es]
      unfold dedS dryS drnS
      rw [show (s : Int) / 25 = dry by omega, if_neg (by omega), if_pos (by omega)]
      omega
theorem zKk_r {k : Nat} (hk : k < 500) : zKk k < 475 := (zK_r (q := k % 20) (x := k / 20) (by omega) (by omega)).1
/-- all weights of the next DAY, and the dead -/
def zPt (r : Nat) (J : Nat → Nat → Int) (L : Nat → Int) (la : Int) : Int := zsm (fun k => J r k * L (zKk k)) 500 + J 0 39 * la
theorem zPt_l {r : Nat} {J : Nat → Nat → Int} (hn : ∀ k : Nat, k < 500 → 0 ≤ J r k) (hd : 0 ≤ J 0 39) : (∀ k : Nat, k < 500 → J r k ≤ zPt r J (fun _ => 1) 1) ∧ J 0 39 ≤ zPt r J (fun _ => 1) 1 ∧ 0 ≤ zPt r J (fun _ => 1) 1 := by
  have n : ∀ j : Nat, j < 500 → 0 ≤ J r j * 1 := fun j hj => by
    have := hn j hj
    omega
  have a := sm_n (f := fun k => J r k * 1) (n := 500) n
  have e : zPt r J (fun _ => 1) 1 = zsm (fun k => J r k * 1) 500 + J 0 39 * 1 := rfl
  rw [e]
  refine ⟨fun k hk => ?_, by omega, by omega⟩
  have b := sm_l (f := fun k => J r k * 1) (n := 500) n k hk
  omega
theorem q_mStateOf {x y z r : Int} (h : f_m_stateOf x y z r) : r = 20 * x + (if z ≤ 0 then y else z + 10) := by
  unfold f_m_stateOf at h
  by_cases g : z ≤ 0
  · rw [if_pos g] at h ⊢; exact h
  · rw [if_neg g] at h ⊢
    have h : r = 20 * x + z + 10 := h
    omega
/-- behind the sun, or none, at a WET of one state -/
def zSb (W J X J2 : Nat → Nat → Int) (l k x : Nat) (less : Int) : Prop :=
  (∀ (L : Nat → Int) (la : Int), (∀ s : Nat, s < 475 → dedS (W 1 (8 + l)) s → L s = la) → zPt 23 J2 L la = zPt 23 J L la + 5 * J 24 x * L (bhS (W 1 l) (zK (k % 20) x) less)) ∧
  (∀ k : Nat, k < 500 → 0 ≤ J2 23 k) ∧ 0 ≤ J2 0 39 ∧ (∀ k : Nat, k < 500 → J2 23 k ≠ 0 → J 23 k ≠ 0 ∨ (k % 20 ≠ 10 ∧ ¬ dedS (W 1 (8 + l)) (zKk k))) ∧ (∀ j : Nat, j ≠ 17 → j ≠ 18 → X j = W j) ∧ ∀ j : Nat, j ≠ 0 → j ≠ 23 → J2 j = J j
theorem sun_ded {k x l : Nat} {less : Int} {W J X J2 V5 : Nat → Nat → Int} {R R2 : Nat → Nat → Nat} (hw : 0 ≤ J 24 x) (hn : ∀ k : Nat, k < 500 → 0 ≤ J 23 k) (hd : 0 ≤ J 0 39) (hM : zPt 23 J (fun _ => 1) 1 + 5 * J 24 x ≤ 1000000000000000000) (hl : 0 ≤ less) (v5 : ∀ j : Nat, j ≠ 17 → j ≠ 18 → V5 j = W j) (hdd : dedS (W 1 (8 + l)) (bhS (W 1 l) (zK (k % 20) x) less)) (hm : (rdb (J 0 39) fun z20 => rdb (wrJ (z20 + 5 * J 24 x)) fun z21 => rdb (up2 J 0 39 z21) fun J22 => rtn (V5, J22, R)) (X, J2, R2)) : zSb W J X J2 l k x less := by
  obtain ⟨m1, m2, m3⟩ := zPt_l hn hd
  simp only [rdb] at hm
  rw [zWj ⟨by omega, by omega⟩] at hm
  simp only [rtn, Prod.mk.injEq] at hm
  obtain ⟨rfl, rfl, rfl⟩ := hm
  have o23 : up2 J 0 39 (J 0 39 + 5 * J 24 x) 23 = J 23 := up2_c _ _ (by decide)
  have br := (bhS_r (W 1 l) (zK (k % 20) x) hl).2
  refine ⟨fun L la hL => ?_, fun q hq => ?_, ?_, fun q hq hh => ?_, v5, fun j j1 j2 => up2_c _ _ j1⟩
  · unfold zPt
    rw [o23, up2_s, hL _ br hdd, Int.add_mul]
    omega
  · rw [o23]; exact hn q hq
  · rw [up2_s]; omega
  · rw [o23] at hh; exact Or.inl hh
theorem sun_liv {k x l k3 : Nat} {less : Int} {W J X J2 V5 : Nat → Nat → Int} {R R2 : Nat → Nat → Nat} (hw : 0 ≤ J 24 x) (hn : ∀ k : Nat, k < 500 → 0 ≤ J 23 k) (hd : 0 ≤ J 0 39) (hM : zPt 23 J (fun _ => 1) 1 + 5 * J 24 x ≤ 1000000000000000000) (v5 : ∀ j : Nat, j ≠ 17 → j ≠ 18 → V5 j = W j) (c1 : k3 < 500) (c2 : k3 % 20 ≠ 10) (c3 : bhS (W 1 l) (zK (k % 20) x) less = zKk k3) (c4 : ¬ dedS (W 1 (8 + l)) (zKk k3)) (hm : (rdb (J 23 k3) fun z26 => rdb (wrJ (z26 + 5 * J 24 x)) fun z27 => rdb (up2 J 23 k3 z27) fun J28 => rtn (V5, J28, R)) (X, J2, R2)) : zSb W J X J2 l k x less := by
  obtain ⟨m1, m2, m3⟩ := zPt_l hn hd
  have m4 := m1 k3 c1
  have n3 := hn k3 c1
  simp only [rdb] at hm
  rw [zWj (z := J 23 k3 + 5 * J 24 x) ⟨by omega, by omega⟩] at hm
  simp only [rtn, Prod.mk.injEq] at hm
  obtain ⟨rfl, rfl, rfl⟩ := hm
  have o0 : up2 J 23 k3 (J 23 k3 + 5 * J 24 x) 0 = J 0 := up2_c _ _ (by decide)
  refine ⟨fun L la hL => ?_, fun q hq => ?_, ?_, fun q hq hh => ?_, v5, fun j j1 j2 => up2_c _ _ j2⟩
  · unfold zPt
    rw [o0, c3]
    have u := sm_u (f := fun k => J 23 k * L (zKk k)) (g := fun k => up2 J 23 k3 (J 23 k3 + 5 * J 24 x) 23 k * L (zKk k)) (d := 5 * J 24 x * L (zKk k3)) (q := k3) (n := 500) c1 (by
      rw [up2_s, Int.add_mul]) (fun j hj hne => by
      rw [up2_n _ _ (Or.inr hne)])
    rw [u]
    omega
  · rw [up2_row]
    by_cases ek : q = k3
    · subst ek; rw [up1_s]; omega
    · rw [up1_n _ _ ek]; exact hn q hq
  · rw [o0]; exact hd
  · by_cases ek : q = k3
    · subst ek; exact Or.inr ⟨c2, c4⟩
    · rw [up2_n _ _ (Or.inr ek)] at hh; exact Or.inl hh
theorem sun_fin {k x l : Nat} {less : Int} {W J X J2 V5 : Nat → Nat → Int} {R R2 : Nat → Nat → Nat} (hk : k < 500) (hk10 : k % 20 ≠ 10) (hx : x < 25) (h33 : W 0 33 = (l : Int)) (hp : 4 ≤ W 1 l ∧ W 1 l ≤ 24) (hb : 1 ≤ W 1 (8 + l) ∧ W 1 (8 + l) ≤ 9) (hw : 0 ≤ J 24 x) (hn : ∀ k : Nat, k < 500 → 0 ≤ J 23 k) (hd : 0 ≤ J 0 39) (hM : zPt 23 J (fun _ => 1) 1 + 5 * J 24 x ≤ 1000000000000000000) (hl : 0 ≤ less) (v5 : ∀ j : Nat, j ≠ 17 → j ≠ 18 → V5 j = W j)
    (hm : (calR (f_m_max 0 ((x : Int) - less)) fun z6 => jnk (fun (z9 : Int) => rdb (V5 0 33) fun z11 => fct (0 ≤ z11 ∧ z11 ≤ 3) <| rdb (V5 1 z11.toNat) fun z12 => fct (0 ≤ z12 ∧ z12 ≤ 24) <| jnk (fun (z14 : Int) => rdb (J 24 (x : Int).toNat) fun z16 => rdb (wrJ (5 * z16)) fun z17 => rdb (V5 1 ((z11 + 8).toNat)) fun z18 => fct (0 ≤ z18 ∧ z18 ≤ 9) <| (if z18 ≤ z9 then rdb (J 0 39) fun z20 => rdb (wrJ (z20 + z17)) fun z21 => rdb (up2 J 0 39 z21) fun J22 => rtn (V5, J22, R) else (if z14 < z18 then calR (f_m_stateOf z6 z9 z14) fun z24 => fct (0 ≤ z24 ∧ z24 ≤ 499) <| calR (f_m_stateOf z6 z9 z14) fun z25 => fct (0 ≤ z25 ∧ z25 ≤ 499) <| rdb (J 23 z25.toNat) fun z26 => rdb (wrJ (z26 + z17)) fun z27 => rdb (up2 J 23 z24.toNat z27) fun J28 => rtn (V5, J28, R) else rdb (J 0 39) fun z29 => rdb (wrJ (z29 + z17)) fun z30 => rdb (up2 J 0 39 z30) fun J31 => rtn (V5, J31, R)))) fun jf15 => (if ¬ z6 = z12 then jf15 0 else calR (f_m_drownedIn (k : Int)) fun z33 => fct (0 ≤ z33 ∧ z33 ≤ 9) <| jf15 (z33 + 1))) fun jf10 => (if ¬ z6 = 0 then jf10 0 else calR (f_m_dryIn (k : Int)) fun z35 => fct (0 ≤ z35 ∧ z35 ≤ 9) <| jf10 (z35 + 1))) (X, J2, R2)) : zSb W J X J2 l k x less := by
  obtain ⟨m1, m2, m3⟩ := zPt_l hn hd
  have d1 : 0 ≤ dryR k ∧ dryR k ≤ 9 := by unfold dryR; split <;> omega
  have d2 : 0 ≤ drnR k ∧ drnR k ≤ 9 := by unfold drnR; split <;> omega
  obtain ⟨f, kf, hm⟩ := hm
  have kf := q_max kf
  have go : ∀ dry drn : Int, dry = (if max 0 ((x : Int) - less) = 0 then dryR k + 1 else 0) → drn = (if max 0 ((x : Int) - less) = W 1 l then drnR k + 1 else 0) → (rdb (J 24 (x : Int).toNat) fun z16 => rdb (wrJ (5 * z16)) fun z17 => rdb (V5 1 (((l : Int) + 8).toNat)) fun z18 => fct (0 ≤ z18 ∧ z18 ≤ 9) <| (if z18 ≤ dry then rdb (J 0 39) fun z20 => rdb (wrJ (z20 + z17)) fun z21 => rdb (up2 J 0 39 z21) fun J22 => rtn (V5, J22, R) else (if drn < z18 then calR (f_m_stateOf f dry drn) fun z24 => fct (0 ≤ z24 ∧ z24 ≤ 499) <| calR (f_m_stateOf f dry drn) fun z25 => fct (0 ≤ z25 ∧ z25 ≤ 499) <| rdb (J 23 z25.toNat) fun z26 => rdb (wrJ (z26 + z17)) fun z27 => rdb (up2 J 23 z24.toNat z27) fun J28 => rtn (V5, J28, R) else rdb (J 0 39) fun z29 => rdb (wrJ (z29 + z17)) fun z30 => rdb (up2 J 0 39 z30) fun J31 => rtn (V5, J31, R)))) (X, J2, R2) → zSb W J X J2 l k x less := by
    intro dry drn e1 e2 hm
    obtain ⟨b1, b2⟩ := zK_bh hk hk10 hx hp hb hl e1 e2 d1 d2
    obtain ⟨z16, e16, hm⟩ := rdb_g hm
    rw [Int.toNat_natCast] at e16
    subst e16
    obtain ⟨z17, e17, hm⟩ := rdb_g hm
    rw [zWj ⟨by omega, by omega⟩] at e17
    subst e17
    obtain ⟨z18, e18, hm⟩ := rdb_g hm
    rw [v5 1 (by decide) (by decide), show ((l : Int) + 8).toNat = 8 + l by omega] at e18
    subst e18
    obtain ⟨-, hm⟩ := hm
    by_cases g : W 1 (8 + l) ≤ dry
    · rw [if_pos g] at hm
      exact sun_ded hw hn hd hM hl v5 (b1 (Or.inl g)) hm
    rw [if_neg g] at hm
    by_cases g2 : drn < W 1 (8 + l)
    · rw [if_pos g2] at hm
      obtain ⟨z24, q24, r24, z25, q25, -, hm⟩ := hm
      have q24 := q_mStateOf q24
      have q25 := q_mStateOf q25
      have ee : z25 = z24 := by rw [q24, q25]
      obtain ⟨k3, hk3⟩ : ∃ k3 : Nat, z24 = (k3 : Int) := ⟨z24.toNat, by omega⟩
      rw [kf, hk3] at q24
      rw [ee, hk3, Int.toNat_natCast] at hm
      obtain ⟨c1, c2, c3, c4⟩ := b2 (by omega) g2 k3 q24
      exact sun_liv hw hn hd hM v5 c1 c2 c3 c4 hm
    · rw [if_neg g2] at hm
      exact sun_ded hw hn hd hM hl v5 (b1 (Or.inr (by omega))) hm
  have pm : ∀ dry : Int, dry = (if max 0 ((x : Int) - less) = 0 then dryR k + 1 else 0) → (rdb (V5 0 33) fun z11 => fct (0 ≤ z11 ∧ z11 ≤ 3) <| rdb (V5 1 z11.toNat) fun z12 => fct (0 ≤ z12 ∧ z12 ≤ 24) <| jnk (fun (z14 : Int) => rdb (J 24 (x : Int).toNat) fun z16 => rdb (wrJ (5 * z16)) fun z17 => rdb (V5 1 ((z11 + 8).toNat)) fun z18 => fct (0 ≤ z18 ∧ z18 ≤ 9) <| (if z18 ≤ dry then rdb (J 0 39) fun z20 => rdb (wrJ (z20 + z17)) fun z21 => rdb (up2 J 0 39 z21) fun J22 => rtn (V5, J22, R) else (if z14 < z18 then calR (f_m_stateOf f dry z14) fun z24 => fct (0 ≤ z24 ∧ z24 ≤ 499) <| calR (f_m_stateOf f dry z14) fun z25 => fct (0 ≤ z25 ∧ z25 ≤ 499) <| rdb (J 23 z25.toNat) fun z26 => rdb (wrJ (z26 + z17)) fun z27 => rdb (up2 J 23 z24.toNat z27) fun J28 => rtn (V5, J28, R) else rdb (J 0 39) fun z29 => rdb (wrJ (z29 + z17)) fun z30 => rdb (up2 J 0 39 z30) fun J31 => rtn (V5, J31, R)))) fun jf15 => (if ¬ f = z12 then jf15 0 else calR (f_m_drownedIn (k : Int)) fun z33 => fct (0 ≤ z33 ∧ z33 ≤ 9) <| jf15 (z33 + 1))) (X, J2, R2) → zSb W J X J2 l k x less := by
    intro dry e1 hm
    obtain ⟨z11, e11, hm⟩ := rdb_g hm
    rw [v5 0 (by decide) (by decide), h33] at e11
    subst e11
    obtain ⟨-, hm⟩ := hm
    obtain ⟨z12, e12, hm⟩ := rdb_g hm
    rw [v5 1 (by decide) (by decide), Int.toNat_natCast] at e12
    subst e12
    obtain ⟨-, hm⟩ := hm
    simp only [jnk] at hm
    by_cases g : f = W 1 l
    · rw [if_neg (fun hh => hh g)] at hm
      obtain ⟨z, hz, -, hm⟩ := hm
      have hz := q_drownedIn hk hz
      subst hz
      exact go dry _ e1 (by rw [if_pos (by rw [← kf]; exact g)]) hm
    · rw [if_pos g] at hm
      exact go dry 0 e1 (by rw [if_neg (by rw [← kf]; exact g)]) hm
  by_cases g : f = 0
  · obtain ⟨z, hz, -, hm2⟩ : (calR (f_m_dryIn (k : Int)) fun z35 => fct (0 ≤ z35 ∧ z35 ≤ 9) <| (fun (z9 : Int) => rdb (V5 0 33) fun z11 => fct (0 ≤ z11 ∧ z11 ≤ 3) <| rdb (V5 1 z11.toNat) fun z12 => fct (0 ≤ z12 ∧ z12 ≤ 24) <| jnk (fun (z14 : Int) => rdb (J 24 (x : Int).toNat) fun z16 => rdb (wrJ (5 * z16)) fun z17 => rdb (V5 1 ((z11 + 8).toNat)) fun z18 => fct (0 ≤ z18 ∧ z18 ≤ 9) <| (if z18 ≤ z9 then rdb (J 0 39) fun z20 => rdb (wrJ (z20 + z17)) fun z21 => rdb (up2 J 0 39 z21) fun J22 => rtn (V5, J22, R) else (if z14 < z18 then calR (f_m_stateOf f z9 z14) fun z24 => fct (0 ≤ z24 ∧ z24 ≤ 499) <| calR (f_m_stateOf f z9 z14) fun z25 => fct (0 ≤ z25 ∧ z25 ≤ 499) <| rdb (J 23 z25.toNat) fun z26 => rdb (wrJ (z26 + z17)) fun z27 => rdb (up2 J 23 z24.toNat z27) fun J28 => rtn (V5, J28, R) else rdb (J 0 39) fun z29 => rdb (wrJ (z29 + z17)) fun z30 => rdb (up2 J 0 39 z30) fun J31 => rtn (V5, J31, R)))) fun jf15 => (if ¬ f = z12 then jf15 0 else calR (f_m_drownedIn (k : Int)) fun z33 => fct (0 ≤ z33 ∧ z33 ≤ 9) <| jf15 (z33 + 1))) (z35 + 1)) (X, J2, R2) := by
      simp only [jnk] at hm
      rw [if_neg (fun hh => hh g)] at hm
      exact hm
    have hz := q_dryIn hk hz
    subst hz
    exact pm _ (by rw [if_pos (by rw [← kf]; exact g)]) hm2
  · refine pm 0 (by rw [if_neg (by rw [← kf]; exact g)]) ?_
    simp only [jnk] at hm
    rw [if_pos g] at hm
    exact hm
theorem q_sunBy {k x l : Nat} {fx sun : Int} {Vx W J X J2 : Nat → Nat → Int} {Rx R R2 : Nat → Nat → Nat} (hk : k < 500) (hk10 : k % 20 ≠ 10) (hx : x < 25) (h : zRw2 Rx Vx W l fx) (hp : 4 ≤ W 1 l) (hb : 1 ≤ W 1 (8 + l) ∧ W 1 (8 + l) ≤ 9) (hw : 0 ≤ J 24 x) (hn : ∀ k : Nat, k < 500 → 0 ≤ J 23 k) (hd : 0 ≤ J 0 39) (hM : zPt 23 J (fun _ => 1) 1 + 5 * J 24 x ≤ 1000000000000000000) (hm : f_m_sunBy (k : Int) (x : Int) sun W J R (X, J2, R2)) :
    zSb W J X J2 l k x (if sun = 0 then goR Rx Vx W l 101 (zK (k % 20) x) else goR Rx Vx W l 101 (zK (k % 20) x) + goR Rx Vx W l 104 (zK (k % 20) x)) := by
  have h0 := h
  obtain ⟨h1, h2, h3, h4, h5, h6, h7, h8⟩ := h
  obtain ⟨zr, zm, -⟩ := zK_r (q := k % 20) (x := x) (by omega) hx
  obtain ⟨zd, zn⟩ := zK_d hk10 hx
  unfold f_m_sunBy at hm
  obtain ⟨V1, k1, -, hm⟩ := hm
  obtain ⟨s1, s2⟩ := q_feelsState hk h3 h4 k1
  have rows : ∀ i : Nat, i < 13 → rowC l (W 1 l) (W 0 34) (W 1 79) (cnt (W 1 78)) 0 0 ((zK (k % 20) x : Int) % 25) (dryS (zK (k % 20) x)) (drnS (zK (k % 20) x)) (fc i) = V1 18 i := rowC_fc (by
    rw [zm, zd, zn]
    obtain ⟨d0, d1, d2, d3, d4, d5, d6, d7, d8, d9, d10, d11, d12⟩ := s2
    exact ⟨d0, d1, d2, d3, d4, d5, d6, d7, d8, d9, d10, d11, d12⟩)
  have rr := rowC_s (zRb_m h0 (p := 0) (t := 0) ⟨by decide, by decide⟩ ⟨by decide, by decide⟩) zr
  obtain ⟨e, V2, k2, -, er, hm⟩ := hm
  have hT1 := h1.cg (Ux := Vx) (Um := V1) (fun _ _ _ _ => rfl) (fun i i1 i2 => s1 i (by omega))
  obtain ⟨t1, t2⟩ := m_tells (tx := 0) hT1.1.1 (by decide) hT1.1.2 h2 rows rr (by decide) k2
  have t1 : e = goR Rx Vx W l 101 (zK (k % 20) x) := t1
  have v2 : ∀ j : Nat, j ≠ 17 → j ≠ 18 → V2 j = W j := fun j j1 j2 => by rw [t2 j j1]; exact s1 j j2
  by_cases g : sun = 0
  · rw [if_pos g, ← t1]
    simp only [jnk] at hm
    rw [if_pos g] at hm
    exact sun_fin hk hk10 hx h3 ⟨hp, h5.2⟩ hb hw hn hd hM er.1 v2 hm
  · rw [if_neg g]
    simp only [jnk] at hm
    rw [if_neg g] at hm
    obtain ⟨eh, V3, k3, -, ehr, hm2⟩ := hm
    have hT2 := h1.cg (Ux := Vx) (Um := V2) (fun _ _ _ _ => rfl) (fun i i1 i2 => v2 i (by omega) (by omega))
    obtain ⟨u1, u2⟩ := m_tells (tx := 0) hT2.1.1 (by decide) hT2.1.2 h2 (fun i hi => by rw [t2 18 (by decide)]; exact rows i hi) rr (by decide) k3
    have u1 : eh = goR Rx Vx W l 104 (zK (k % 20) x) := u1
    rw [← t1, ← u1]
    exact sun_fin hk hk10 hx h3 ⟨hp, h5.2⟩ hb hw hn hd hM (by omega) (fun j j1 j2 => by rw [u2 j j1]; exact v2 j j1 j2) hm2
end
section
-- the reference: through the DAYS (own work)
theorem p10_e : ∀ n : Nat, (10 : Int) ^ n = p10 n
  | 0 => rfl
  | n + 1 => by
    rw [Int.pow_succ, p10_e n]
    show p10 n * 10 = 10 * p10 n
    omega
theorem p10_a (a b : Nat) : p10 (a + b) = p10 a * p10 b := by
  rw [← p10_e, ← p10_e, ← p10_e, Int.pow_add]
theorem z_tens {n : Nat} {r : Int} (h : f_m_tens (n : Int) r) : r = p10 n := by
  unfold f_m_tens at h
  obtain ⟨b, hb, h⟩ := lop2_g h
  have key : ∀ (f z : Nat) (w : Int), z ≤ n → w = p10 z → lop2 f b (z : Int) w r → r = p10 n := by
    intro f
    induction f with
    | zero => intro z w _ _ h; exact False.elim h
    | succ f ih =>
      intro z w hz hw h
      rw [lop2_s hb] at h
      by_cases g : (n : Int) ≤ z
      · rw [if_pos g] at h
        have h : r = w := h
        rw [h, hw, show z = n by omega]
      · rw [if_neg g, show ((z : Int) + 1) = ((z + 1 : Nat) : Int) by omega] at h
        exact ih (z + 1) _ (by omega) (by rw [hw]; rfl) h
  exact key 20 0 1 (Nat.zero_le _) rfl h
/-- a DAY's way leaves a number for the dead the same, ten times a DRAW -/
theorem zTp_d {bears pot c v : Int} {g L : Nat → Int} (h : ∀ s : Nat, s < 475 → dedS bears s → L s = v) : ∀ s : Nat, s < 475 → dedS bears s → zTp bears pot c g L s = 10 * v := fun s hs hd => by
  unfold zTp
  rw [if_pos hd, h s hs hd]
theorem zTd_d {bears pot v : Int} {e h L : Nat → Int} (hL : ∀ s : Nat, s < 475 → dedS bears s → L s = v) : ∀ s : Nat, s < 475 → dedS bears s → zTd bears pot e h L s = 10 * v := fun s hs hd => by
  unfold zTd
  rw [if_pos hd, hL s hs hd]
theorem zPs_d {bears pot : Int} {c : Nat → Int} {g : Nat → Nat → Int} {L : Nat → Int} : ∀ (k i : Nat) (v : Int), (∀ s : Nat, s < 475 → dedS bears s → L s = v) → ∀ s : Nat, s < 475 → dedS bears s → zPs bears pot c g k i L s = p10 k * v
  | 0, i, v, h, s, hs, hd => by
    show L s = 1 * v
    rw [h s hs hd]; omega
  | k + 1, i, v, h, s, hs, hd => by
    show zTp _ _ _ _ _ s = 10 * p10 k * v
    rw [zTp_d (fun s hs hd => zPs_d k (i + 1) v h s hs hd) s hs hd, Int.mul_assoc]
theorem zDs_d {bears pot : Int} {c : Nat → Int} {m : Nat} {g : Nat → Nat → Nat → Int} {e h : Nat → Nat → Int} {L : Nat → Int} : ∀ (r d : Nat), (∀ s : Nat, s < 475 → dedS bears s → L s = 0) → ∀ s : Nat, s < 475 → dedS bears s → zDs bears pot c m g e h r d L s = 0
  | 0, d, h, s, hs, hd => h s hs hd
  | r + 1, d, h, s, hs, hd => by
    show zPs _ _ _ _ m 0 _ s = 0
    rw [zPs_d m 0 0 (zTd_d (fun s hs hd => zDs_d r (d + 1) h s hs hd)) s hs hd, Int.mul_zero]
theorem zPs_1 {bears pot : Int} {c : Nat → Int} {g : Nat → Nat → Int} : ∀ (k i : Nat) (v : Int) (s : Nat), zPs bears pot c g k i (fun _ => v) s = p10 k * v
  | 0, i, v, s => by
    show v = 1 * v
    omega
  | k + 1, i, v, s => by
    have e : zPs bears pot c g k (i + 1) (fun _ => v) = fun _ => p10 k * v := funext fun s => zPs_1 k (i + 1) v s
    show zTp _ _ _ _ (zPs bears pot c g k (i + 1) (fun _ => v)) s = 10 * p10 k * v
    rw [e]
    unfold zTp
    dsimp only
    split
    · rw [Int.mul_assoc]
    · rw [← Int.add_mul, show 10 - c i + c i = 10 by omega, Int.mul_assoc]
theorem zTd_1 {bears pot v : Int} {e h : Nat → Int} : zTd bears pot e h (fun _ => v) = fun _ => 10 * v := funext fun s => by
  unfold zTd
  dsimp only
  split <;> omega
/-- by the DAY d, from W's on -/
def gvD (Rx : Nat → Nat → Nat) (Vx W : Nat → Nat → Int) (l : Nat) (fx : Int) (d i s : Nat) : Int := gvS Vx (Rx 66 (W 1 (60 + (W 20 i).toNat)).toNat) l (W 1 l) (W 0 34) (W 1 79 + d) (cnt (W 1 78)) (W 20 i) (W 21 i) fx (W 0 32) s
def goD (Rx : Nat → Nat → Nat) (Vx W : Nat → Nat → Int) (l : Nat) (lt : Int) (d s : Nat) : Int := goS Vx (Rx 60 0) lt l (W 1 l) (W 0 34) (W 1 79 + d) (cnt (W 1 78)) s
/-- on the DAY d all is as in W, but for the DAY -/
def zDy (W X : Nat → Nat → Int) (d : Nat) : Prop := (∀ j : Nat, j ≠ 1 → j ≠ 17 → j ≠ 18 → X j = W j) ∧ (∀ j : Nat, j ≠ 79 → X 1 j = W 1 j) ∧ X 1 79 = W 1 79 + d
theorem zDy.as {W X Y : Nat → Nat → Int} {d : Nat} (h : zDy W X d) (hY : ∀ j : Nat, j ≠ 17 → j ≠ 18 → Y j = X j) : zDy W Y d := ⟨fun j j1 j2 j3 => by rw [hY j j2 j3]; exact h.1 j j1 j2 j3, fun j hj => by rw [hY 1 (by decide) (by decide)]; exact h.2.1 j hj, by rw [hY 1 (by decide) (by decide)]; exact h.2.2⟩
theorem zDy.w2 {Rx : Nat → Nat → Nat} {Vx W X : Nat → Nat → Int} {l d : Nat} {fx : Int} (h : zDy W X d) (hW : zRw2 Rx Vx W l fx) (hd : W 1 79 + d ≤ 10010) : zRw2 Rx Vx X l fx := by
  obtain ⟨h1, h2, h3, h4, h5, h6, h7, h8⟩ := hW
  refine ⟨h1.cg (fun _ _ _ _ => rfl) (fun i i1 i2 => h.1 i (by omega) (by omega) (by omega)), h2, ?_⟩
  rw [h.1 0 (by decide) (by decide) (by decide), h.2.1 l (by omega), h.2.2]
  exact ⟨h3, h4, h5, h6, ⟨by omega, by omega⟩, h8⟩
theorem zDy.gv {Rx : Nat → Nat → Nat} {Vx W X : Nat → Nat → Int} {l d : Nat} {fx : Int} (h : zDy W X d) (hl : l < 4) (i : Nat) (hp : 0 ≤ W 20 i ∧ W 20 i ≤ 7) : gvR Rx Vx X l fx i = gvD Rx Vx W l fx d i := funext fun s => by
  unfold gvR gvD
  rw [h.1 20 (by decide) (by decide) (by decide), h.1 21 (by decide) (by decide) (by decide), h.1 0 (by decide) (by decide) (by decide), h.2.1 l (by omega), h.2.1 78 (by decide), h.2.2, h.2.1 (60 + (W 20 i).toNat) (by omega)]
theorem zDy.go {Rx : Nat → Nat → Nat} {Vx W X : Nat → Nat → Int} {l d : Nat} {lt : Int} (h : zDy W X d) (hl : l < 4) : goR Rx Vx X l lt = goD Rx Vx W l lt d := funext fun s => by
  unfold goR goD
  rw [h.1 0 (by decide) (by decide) (by decide), h.2.1 l (by omega), h.2.1 78 (by decide), h.2.2]
theorem zPs_c {bears pot : Int} {c c2 : Nat → Int} {g g2 : Nat → Nat → Int} {L : Nat → Int} : ∀ (k i : Nat), (∀ j : Nat, i ≤ j → j < i + k → c j = c2 j ∧ g j = g2 j) → zPs bears pot c g k i L = zPs bears pot c2 g2 k i L
  | 0, _, _ => rfl
  | k + 1, i, h => by
    show zTp _ _ (c i) (g i) _ = zTp _ _ (c2 i) (g2 i) _
    rw [(h i (by omega) (by omega)).1, (h i (by omega) (by omega)).2, zPs_c k (i + 1) (fun j j1 j2 => h j (by omega) (by omega))]
/-- what stands at the beginning of a DAY -/
def zBg (bears : Int) (Y : Nat → Nat → Int) : Prop := (∀ k : Nat, k < 500 → 0 ≤ Y 22 k) ∧ 0 ≤ Y 0 39 ∧ ∀ k : Nat, k < 500 → Y 22 k ≠ 0 → k % 20 ≠ 10 ∧ ¬ dedS bears (zKk k)
/-- a DAY's middle: one state after the other -/
theorem q_oneDay {ρ : Type} {f m l d : Nat} {fx : Int} {Vx W V Y : Nat → Nat → Int} {Rx R : Nat → Nat → Nat} {K : (Nat → Nat → Int) → (Nat → Nat → Int) → (Nat → Nat → Nat) → ρ → Prop} {r : ρ} {b : (Int → (Nat → Nat → Int) → (Nat → Nat → Int) → (Nat → Nat → Nat) → ρ → Prop) → Int → (Nat → Nat → Int) → (Nat → Nat → Int) → (Nat → Nat → Nat) → ρ → Prop}
    (hb : b = fun rc495133 (z495132 : Int) (V495133 : Nat → Nat → Int) (J495133 : Nat → Nat → Int) (R495133 : Nat → Nat → Nat) => (if 500 ≤ z495132 then K V495133 J495133 R495133 else rdb (J495133 22 z495132.toNat) fun z495698 => jnk (fun (V495776 : Nat → Nat → Int) (J495776 : Nat → Nat → Int) (R495776 : Nat → Nat → Nat) => rc495133 (z495132 + 1) V495776 J495776 R495776) fun jf495776 => (if ¬ (lcI z495698 0) = 0 then calTM 7253554917687775048237056 V495133 (f_m_comesBy z495132 (m : Int) V495133 J495133 R495133) fun V495778 J495778 R495778 => lop4 (27) (fun rc495835 (z495834 : Int) (V495835 : Nat → Nat → Int) (J495835 : Nat → Nat → Int) (R495835 : Nat → Nat → Nat) => (if 24 < z495834 then jf495776 V495835 J495835 R495835 else rdb (J495835 24 z495834.toNat) fun z495846 => jnk (fun (V495850 : Nat → Nat → Int) (J495850 : Nat → Nat → Int) (R495850 : Nat → Nat → Nat) => rc495835 (z495834 + 1) V495850 J495850 R495850) fun jf495850 => (if ¬ (lcI z495846 0) = 0 then calTM 7253554917687775048237056 V495835 (f_m_sunBy z495132 z495834 1 V495835 J495835 R495835) fun V495852 J495852 R495852 => calTM 7253554917687775048237056 V495852 (f_m_sunBy z495132 z495834 0 V495852 J495852 R495852) fun V495853 J495853 R495853 => jf495850 V495853 J495853 R495853 else jf495850 V495835 J495835 R495835))) 0 V495778 J495778 R495778 else jf495776 V495133 J495133 R495133)))
    (hm3 : m ≤ 3) (hW : zRw2 Rx Vx W l fx) (hfx : fx ≤ 9) (hp4 : 4 ≤ W 1 l) (hbe : 1 ≤ W 1 (8 + l) ∧ W 1 (8 + l) ≤ 9) (hd : W 1 79 + d ≤ 10010) (ht : ∀ i : Nat, i < m → 0 ≤ W 21 i ∧ W 21 i ≤ 10) (hp : ∀ i : Nat, i < m → 0 ≤ W 20 i ∧ W 20 i ≤ 7) (hV : zDy W V d) (hB : zBg (W 1 (8 + l)) Y) (h23 : ∀ k : Nat, k < 500 → Y 23 k = 0) (hM : zPt 22 Y (fun _ => p10 (m + 1)) 1 ≤ 1000000000000000000) (hx : lop4 f b ((0 : Nat) : Int) V Y R r) :
    ∃ (V2 Y2 : Nat → Nat → Int) (R2 : Nat → Nat → Nat), K V2 Y2 R2 r ∧ zDy W V2 d ∧ (∀ k : Nat, k < 500 → 0 ≤ Y2 23 k) ∧ 0 ≤ Y2 0 39 ∧ (∀ k : Nat, k < 500 → Y2 23 k ≠ 0 → k % 20 ≠ 10 ∧ ¬ dedS (W 1 (8 + l)) (zKk k)) ∧
      ∀ (L : Nat → Int) (la : Int), (∀ s : Nat, s < 475 → dedS (W 1 (8 + l)) s → L s = la) → zPt 23 Y2 L la = zPt 22 Y (zPs (W 1 (8 + l)) (W 1 l) (fun i => W 21 i) (gvD Rx Vx W l fx d) m 0 (zTd (W 1 (8 + l)) (W 1 l) (goD Rx Vx W l 101 d) (goD Rx Vx W l 104 d) L)) la := by
  have hl4 := hW.2.2.2.1
  have hpot := hW.2.2.2.2.1
  obtain ⟨hB1, hB2, hB3⟩ := hB
  have T1 : ∀ s : Nat, zPs (W 1 (8 + l)) (W 1 l) (fun i => W 21 i) (gvD Rx Vx W l fx d) m 0 (zTd (W 1 (8 + l)) (W 1 l) (goD Rx Vx W l 101 d) (goD Rx Vx W l 104 d) (fun _ => 1)) s = p10 (m + 1) := fun s => by
    rw [zTd_1, zPs_1]
    show p10 m * (10 * 1) = 10 * p10 m
    omega
  have pp : 1 ≤ p10 (m + 1) := (p10_l (m + 1) (by omega)).1
  have key : ∀ (f k : Nat) (V2 Q : Nat → Nat → Int) (R2 : Nat → Nat → Nat), k ≤ 500 → zDy W V2 d → (Q 22 = Y 22) → (∀ k : Nat, k < 500 → 0 ≤ Q 23 k) → 0 ≤ Q 0 39 → (∀ k : Nat, k < 500 → Q 23 k ≠ 0 → k % 20 ≠ 10 ∧ ¬ dedS (W 1 (8 + l)) (zKk k)) →
      (∀ (L : Nat → Int) (la : Int), (∀ s : Nat, s < 475 → dedS (W 1 (8 + l)) s → L s = la) → zPt 23 Q L la = zsm (fun k => Y 22 k * zPs (W 1 (8 + l)) (W 1 l) (fun i => W 21 i) (gvD Rx Vx W l fx d) m 0 (zTd (W 1 (8 + l)) (W 1 l) (goD Rx Vx W l 101 d) (goD Rx Vx W l 104 d) L) (zKk k)) k + Y 0 39 * la) → lop4 f b (k : Int) V2 Q R2 r →
      ∃ (V2 Y2 : Nat → Nat → Int) (R2 : Nat → Nat → Nat), K V2 Y2 R2 r ∧ zDy W V2 d ∧ (∀ k : Nat, k < 500 → 0 ≤ Y2 23 k) ∧ 0 ≤ Y2 0 39 ∧ (∀ k : Nat, k < 500 → Y2 23 k ≠ 0 → k % 20 ≠ 10 ∧ ¬ dedS (W 1 (8 + l)) (zKk k)) ∧
      ∀ (L : Nat → Int) (la : Int), (∀ s : Nat, s < 475 → dedS (W 1 (8 + l)) s → L s = la) → zPt 23 Y2 L la = zPt 22 Y (zPs (W 1 (8 + l)) (W 1 l) (fun i => W 21 i) (gvD Rx Vx W l fx d) m 0 (zTd (W 1 (8 + l)) (W 1 l) (goD Rx Vx W l 101 d) (goD Rx Vx W l 104 d) L)) la := by
    intro f
    induction f with
    | zero => intro k V2 Q R2 _ _ _ _ _ _ _ h; exact False.elim h
    | succ f ih =>
      intro k V2 Q R2 hk hV2 hQ q1 q2 q3 q4 hx
      rw [lop4_s hb] at hx
      by_cases g : (500 : Int) ≤ k
      · rw [if_pos g] at hx
        have ek : k = 500 := by omega
        subst ek
        exact ⟨V2, Q, R2, hx, hV2, q1, q2, q3, q4⟩
      · rw [if_neg g] at hx
        have hk5 : k < 500 := by omega
        obtain ⟨w, ew, hx⟩ := rdb_g hx
        rw [hQ, Int.toNat_natCast] at ew
        have nx : ((k : Int) + 1) = ((k + 1 : Nat) : Int) := by omega
        have stp : ∀ L : Nat → Int, zsm (fun k => Y 22 k * zPs (W 1 (8 + l)) (W 1 l) (fun i => W 21 i) (gvD Rx Vx W l fx d) m 0 (zTd (W 1 (8 + l)) (W 1 l) (goD Rx Vx W l 101 d) (goD Rx Vx W l 104 d) L) (zKk k)) (k + 1) = zsm (fun k => Y 22 k * zPs (W 1 (8 + l)) (W 1 l) (fun i => W 21 i) (gvD Rx Vx W l fx d) m 0 (zTd (W 1 (8 + l)) (W 1 l) (goD Rx Vx W l 101 d) (goD Rx Vx W l 104 d) L) (zKk k)) k + Y 22 k * zPs (W 1 (8 + l)) (W 1 l) (fun i => W 21 i) (gvD Rx Vx W l fx d) m 0 (zTd (W 1 (8 + l)) (W 1 l) (goD Rx Vx W l 101 d) (goD Rx Vx W l 104 d) L) (zKk k) := fun _ => rfl
        simp only [jnk] at hx
        by_cases g0 : w = 0
        · rw [if_neg (fun hh => hh ((lcI_eq _ _).mpr g0)), nx] at hx
          refine ih (k + 1) V2 Q R2 (by omega) hV2 hQ q1 q2 q3 (fun L la hL => ?_) hx
          rw [stp, ew, g0, Int.zero_mul, Int.add_zero]
          exact q4 L la hL
        rw [if_pos (fun hh => g0 ((lcI_eq _ _).mp hh))] at hx
        obtain ⟨c10, cal⟩ := hB3 k hk5 (by rw [ew]; exact g0)
        have w0 : 0 ≤ w := by rw [← ew]; exact hB1 k hk5
        -- room for all of it
        have le1 := sm_le (f := fun k => Y 22 k * zPs (W 1 (8 + l)) (W 1 l) (fun i => W 21 i) (gvD Rx Vx W l fx d) m 0 (zTd (W 1 (8 + l)) (W 1 l) (goD Rx Vx W l 101 d) (goD Rx Vx W l 104 d) (fun _ => 1)) (zKk k)) (i := k + 1) (n := 500) (fun j hj => by
          rw [T1]
          exact Int.mul_nonneg (hB1 j hj) (by omega)) (by omega)
        have tot : zsm (fun k => Y 22 k * zPs (W 1 (8 + l)) (W 1 l) (fun i => W 21 i) (gvD Rx Vx W l fx d) m 0 (zTd (W 1 (8 + l)) (W 1 l) (goD Rx Vx W l 101 d) (goD Rx Vx W l 104 d) (fun _ => 1)) (zKk k)) 500 + Y 0 39 * 1 = zPt 22 Y (fun _ => p10 (m + 1)) 1 := by
          unfold zPt
          rw [sm_c (g := fun k => Y 22 k * p10 (m + 1)) (fun j _ => by
            rw [T1])]
        have s1 := q4 (fun _ => 1) 1 (fun _ _ _ => rfl)
        have s2 := stp (fun _ => 1)
        rw [T1, ew] at s2
        have wp : w * p10 (m + 1) = 10 * (p10 m * w) := by
          show w * (10 * p10 m) = _
          rw [Int.mul_comm, Int.mul_assoc]
        obtain ⟨l1, l2, l3⟩ := zPt_l q1 q2
        obtain ⟨V3, Q3, R3, kc, -, hx⟩ := hx
        have hV2w := hV2.w2 hW hd
        have pmw : 0 ≤ p10 m * w := Int.mul_nonneg (by have := (p10_l m (by omega)).1; omega) w0
        obtain ⟨d1, d2, d3, d4⟩ := q_comesBy hk5 c10 hm3 hV2w hfx (fun i hi => by rw [hV2.1 21 (by decide) (by decide) (by decide)]; exact ht i hi) cal (by rw [hQ, ew]; exact w0) (by rw [hQ, ew]; omega) kc
        rw [hQ, ew, hV2.2.1 l (by omega), hV2.1 21 (by decide) (by decide) (by decide)] at d2
        have d2 : ∀ L : Nat → Int, zW (Q3 24) (k % 20) L = w * zPs (W 1 (8 + l)) (W 1 l) (fun i => W 21 i) (gvD Rx Vx W l fx d) m 0 L (zKk k) := fun L => by
          rw [d2 L, zPs_c (c2 := fun i => W 21 i) (g2 := gvD Rx Vx W l fx d) m 0 (fun j _ j2 => ⟨rfl, hV2.gv hl4 j (hp j (by omega))⟩)]
          rfl
        have hV3 := hV2.as d3
        have Q322 : Q3 22 = Y 22 := by rw [d4 22 (by decide) (by decide)]; exact hQ
        have Q323 : Q3 23 = Q 23 := d4 23 (by decide) (by decide)
        have Q30 : Q3 0 = Q 0 := d4 0 (by decide) (by decide)
        have P3 : ∀ (L : Nat → Int) (la : Int), zPt 23 Q3 L la = zPt 23 Q L la := fun L la => by
          unfold zPt
          rw [Q323, Q30]
        have wN : zW (Q3 24) (k % 20) (fun _ => 1) = p10 m * w := by
          rw [d2, zPs_1, Int.mul_one, Int.mul_comm]
        obtain ⟨b2, hb2, hx⟩ := zlop4 hx
        have sun : ∀ (f2 x : Nat) (V4 Q4 : Nat → Nat → Int) (R4 : Nat → Nat → Nat), x ≤ 25 → zDy W V4 d → Q4 22 = Y 22 → Q4 24 = Q3 24 → (∀ k : Nat, k < 500 → 0 ≤ Q4 23 k) → 0 ≤ Q4 0 39 → (∀ k : Nat, k < 500 → Q4 23 k ≠ 0 → k % 20 ≠ 10 ∧ ¬ dedS (W 1 (8 + l)) (zKk k)) →
            (∀ (L : Nat → Int) (la : Int), (∀ s : Nat, s < 475 → dedS (W 1 (8 + l)) s → L s = la) → zPt 23 Q4 L la = zPt 23 Q L la + zsm (fun y => Q3 24 y * zTd (W 1 (8 + l)) (W 1 l) (goD Rx Vx W l 101 d) (goD Rx Vx W l 104 d) L (zK (k % 20) y)) x) → lop4 f2 b2 (x : Int) V4 Q4 R4 r →
            ∃ (V2 Y2 : Nat → Nat → Int) (R2 : Nat → Nat → Nat), K V2 Y2 R2 r ∧ zDy W V2 d ∧ (∀ k : Nat, k < 500 → 0 ≤ Y2 23 k) ∧ 0 ≤ Y2 0 39 ∧ (∀ k : Nat, k < 500 → Y2 23 k ≠ 0 → k % 20 ≠ 10 ∧ ¬ dedS (W 1 (8 + l)) (zKk k)) ∧
            ∀ (L : Nat → Int) (la : Int), (∀ s : Nat, s < 475 → dedS (W 1 (8 + l)) s → L s = la) → zPt 23 Y2 L la = zPt 22 Y (zPs (W 1 (8 + l)) (W 1 l) (fun i => W 21 i) (gvD Rx Vx W l fx d) m 0 (zTd (W 1 (8 + l)) (W 1 l) (goD Rx Vx W l 101 d) (goD Rx Vx W l 104 d) L)) la := by
          intro f2
          induction f2 with
          | zero => intro x V4 Q4 R4 _ _ _ _ _ _ _ _ h; exact False.elim h
          | succ f2 ih2 =>
            intro x V4 Q4 R4 hx25 hV4 a1 a2 a3 a4 a5 a6 hx
            rw [lop4_s hb2] at hx
            by_cases gx : (24 : Int) < x
            · rw [if_pos gx] at hx
              have ex : x = 25 := by omega
              subst ex
              rw [nx] at hx
              refine ih (k + 1) V4 Q4 R4 (by omega) hV4 a1 a3 a4 a5 (fun L la hL => ?_) hx
              rw [a6 L la hL, q4 L la hL, stp L, ew, ← d2]
              unfold zW
              omega
            rw [if_neg gx] at hx
            have hxl : x < 25 := by omega
            obtain ⟨v, ev, hx⟩ := rdb_g hx
            rw [a2, Int.toNat_natCast] at ev
            have nx2 : ((x : Int) + 1) = ((x + 1 : Nat) : Int) := by omega
            have stp2 : ∀ L : Nat → Int, zsm (fun y => Q3 24 y * zTd (W 1 (8 + l)) (W 1 l) (goD Rx Vx W l 101 d) (goD Rx Vx W l 104 d) L (zK (k % 20) y)) (x + 1) = zsm (fun y => Q3 24 y * zTd (W 1 (8 + l)) (W 1 l) (goD Rx Vx W l 101 d) (goD Rx Vx W l 104 d) L (zK (k % 20) y)) x + Q3 24 x * zTd (W 1 (8 + l)) (W 1 l) (goD Rx Vx W l 101 d) (goD Rx Vx W l 104 d) L (zK (k % 20) x) := fun _ => rfl
            by_cases gv : v = 0
            · rw [if_neg (fun hh => hh ((lcI_eq _ _).mpr gv)), nx2] at hx
              refine ih2 (x + 1) V4 Q4 R4 (by omega) hV4 a1 a2 a3 a4 a5 (fun L la hL => ?_) hx
              rw [stp2, ev, gv, Int.zero_mul, Int.add_zero]
              exact a6 L la hL
            rw [if_pos (fun hh => gv ((lcI_eq _ _).mp hh))] at hx
            have v0 : 0 ≤ v := by rw [← ev]; exact d1 x hxl
            have le2 := sm_le (f := fun y => Q3 24 y * zTd (W 1 (8 + l)) (W 1 l) (goD Rx Vx W l 101 d) (goD Rx Vx W l 104 d) (fun _ => 1) (zK (k % 20) y)) (i := x + 1) (n := 25) (fun j hj => by
              rw [zTd_one]
              have := d1 j hj
              omega) (by omega)
            have t25 : zsm (fun y => Q3 24 y * zTd (W 1 (8 + l)) (W 1 l) (goD Rx Vx W l 101 d) (goD Rx Vx W l 104 d) (fun _ => 1) (zK (k % 20) y)) 25 = 10 * (p10 m * w) := by
              rw [← wN]
              exact sm_m fun j _ => by
                dsimp only
                rw [zTd_one]
                omega
            have s3 := stp2 (fun _ => 1)
            rw [zTd_one, ev] at s3
            have s4 := a6 (fun _ => 1) 1 (fun _ _ _ => rfl)
            have hV4w := hV4.w2 hW hd
            have w8 : V4 1 (8 + l) = W 1 (8 + l) := hV4.2.1 _ (by omega)
            have wl : V4 1 l = W 1 l := hV4.2.1 _ (by omega)
            obtain ⟨V5, Q5, R5, k5, -, hx⟩ := hx
            obtain ⟨p1, p2, p3, p4, p5, p6⟩ := q_sunBy hk5 c10 hxl hV4w (by rw [wl]; exact hp4) (by rw [w8]; exact hbe) (by rw [a2, ev]; exact v0) a3 a4 (by rw [a2, ev]; omega) k5
            rw [w8, wl, a2, ev, if_neg (by decide), hV4.go hl4, hV4.go hl4] at p1
            rw [w8] at p4
            have hV5 := hV4.as p5
            have hV5w := hV5.w2 hW hd
            have w85 : V5 1 (8 + l) = W 1 (8 + l) := hV5.2.1 _ (by omega)
            have wl5 : V5 1 l = W 1 l := hV5.2.1 _ (by omega)
            have p624 : Q5 24 = Q3 24 := by rw [p6 24 (by decide) (by decide)]; exact a2
            have s5 := p1 (fun _ => 1) 1 (fun _ _ _ => rfl)
            obtain ⟨V6, Q6, R6, k6, -, hx⟩ := hx
            obtain ⟨r1, r2, r3, r4, r5, r6⟩ := q_sunBy hk5 c10 hxl hV5w (by rw [wl5]; exact hp4) (by rw [w85]; exact hbe) (by rw [p624, ev]; exact v0) p2 p3 (by rw [p624, ev]; omega) k6
            rw [w85, wl5, p624, ev, if_pos rfl, hV5.go hl4] at r1
            rw [w85] at r4
            rw [nx2] at hx
            refine ih2 (x + 1) V6 Q6 R6 (by omega) (hV5.as r5) (by rw [r6 22 (by decide) (by decide), p6 22 (by decide) (by decide)]; exact a1) (by rw [r6 24 (by decide) (by decide)]; exact p624) r2 r3 (fun q hq hh => ?_) (fun L la hL => ?_) hx
            · rcases r4 q hq hh with e | e
              · rcases p4 q hq e with e | e
                · exact a5 q hq e
                · exact e
              · exact e
            · have al : ¬ dedS (W 1 (8 + l)) (zK (k % 20) x) := fun hh => cal ((zK_ded (by omega) hxl (by omega)).mp hh)
              rw [r1 L la hL, p1 L la hL, a6 L la hL, stp2 L, ev]
              unfold zTd
              rw [if_neg al, Int.mul_add, ← Int.mul_assoc, ← Int.mul_assoc, Int.mul_comm v 5]
              omega
        exact sun 27 0 V3 Q3 R3 (by omega) hV3 Q322 rfl (by rw [Q323]; exact q1) (by rw [Q30]; exact q2) (by rw [Q323]; exact q3) (fun L la _ => by
          rw [P3]
          show _ = _ + (0 : Int)
          rw [Int.add_zero]) hx
  refine key f 0 V Y R (by omega) hV rfl (fun k hk => by rw [h23 k hk]; decide) hB2 (fun k hk hh => absurd (h23 k hk) hh) (fun L la hL => ?_) hx
  unfold zPt
  rw [sm_z (fun j hj => by
    rw [h23 j hj, Int.zero_mul])]
  rfl
end
section
-- the lowest told PEOPLE on both sides; who can reckon (own work)
/-- told PEOPLE below p, by numbers -/
def lwl (N : Nat → Int) : Nat → List Int
  | 0 => []
  | p + 1 => if bt (N 78) (p : Int) = 1 then lwl N p ++ [(p : Int)] else lwl N p
def zLw (N : Nat → Int) (j : Nat) : Int := (lwl N 8).getD j 0
theorem lwl_s {N : Nat → Int} {p : Nat} : (lwl N (p + 1)).length = (lwl N p).length + (bt (N 78) (p : Int)).toNat := by
  have b := bt_r (N 78) (p : Int)
  show (if bt (N 78) (p : Int) = 1 then lwl N p ++ [(p : Int)] else lwl N p).length = _
  by_cases g : bt (N 78) (p : Int) = 1
  · rw [if_pos g, g, List.length_append]; rfl
  · rw [if_neg g, show bt (N 78) (p : Int) = 0 by omega]; rfl
theorem lwl_n {N : Nat → Int} : ((lwl N 8).length : Int) = cnt (N 78) := by
  have b0 := bt_r (N 78) 0
  have b1 := bt_r (N 78) 1
  have b2 := bt_r (N 78) 2
  have b3 := bt_r (N 78) 3
  have b4 := bt_r (N 78) 4
  have b5 := bt_r (N 78) 5
  have b6 := bt_r (N 78) 6
  have b7 := bt_r (N 78) 7
  have e0 : (lwl N 0).length = 0 := rfl
  have e1 := lwl_s (N := N) (p := 0)
  have e2 := lwl_s (N := N) (p := 1)
  have e3 := lwl_s (N := N) (p := 2)
  have e4 := lwl_s (N := N) (p := 3)
  have e5 := lwl_s (N := N) (p := 4)
  have e6 := lwl_s (N := N) (p := 5)
  have e7 := lwl_s (N := N) (p := 6)
  have e8 := lwl_s (N := N) (p := 7)
  unfold cnt
  change (lwl N 1).length = (lwl N 0).length + (bt (N 78) 0).toNat at e1
  change (lwl N 2).length = (lwl N 1).length + (bt (N 78) 1).toNat at e2
  change (lwl N 3).length = (lwl N 2).length + (bt (N 78) 2).toNat at e3
  change (lwl N 4).length = (lwl N 3).length + (bt (N 78) 3).toNat at e4
  change (lwl N 5).length = (lwl N 4).length + (bt (N 78) 4).toNat at e5
  change (lwl N 6).length = (lwl N 5).length + (bt (N 78) 5).toNat at e6
  change (lwl N 7).length = (lwl N 6).length + (bt (N 78) 6).toNat at e7
  change (lwl N 8).length = (lwl N 7).length + (bt (N 78) 7).toNat at e8
  omega
theorem lwl_p {N : Nat → Int} {p : Nat} : ∀ (k : Nat), ∃ t : List Int, lwl N (p + k) = lwl N p ++ t
  | 0 => ⟨[], (List.append_nil _).symm⟩
  | k + 1 => by
    obtain ⟨t, e⟩ := lwl_p (N := N) (p := p) k
    show ∃ t2, (if bt (N 78) ((p + k : Nat) : Int) = 1 then lwl N (p + k) ++ [((p + k : Nat) : Int)] else lwl N (p + k)) = _
    by_cases g : bt (N 78) ((p + k : Nat) : Int) = 1
    · rw [if_pos g, e, List.append_assoc]; exact ⟨_, rfl⟩
    · rw [if_neg g, e]; exact ⟨_, rfl⟩
theorem zLw_e {N : Nat → Int} {p j : Nat} (hp : p ≤ 8) (hj : j < (lwl N p).length) : zLw N j = (lwl N p).getD j 0 := by
  obtain ⟨t, e⟩ := lwl_p (N := N) (p := p) (8 - p)
  rw [show p + (8 - p) = 8 by omega] at e
  unfold zLw
  rw [e, List.getD_eq_getElem?_getD, List.getD_eq_getElem?_getD, List.getElem?_append_left hj]
theorem lwl_m {N : Nat → Int} : ∀ (p : Nat) (x : Int), x ∈ lwl N p → 0 ≤ x ∧ x < p ∧ bt (N 78) x = 1
  | 0, x, h => by cases h
  | p + 1, x, h => by
    have h : x ∈ (if bt (N 78) (p : Int) = 1 then lwl N p ++ [(p : Int)] else lwl N p) := h
    by_cases g : bt (N 78) (p : Int) = 1
    · rw [if_pos g] at h
      rcases List.mem_append.mp h with h | h
      · have := lwl_m p x h
        omega
      · rw [List.mem_singleton] at h
        subst h
        exact ⟨by omega, by omega, g⟩
    · rw [if_neg g] at h
      have := lwl_m p x h
      omega
theorem zLw_r {N : Nat → Int} (j : Nat) : 0 ≤ zLw N j ∧ zLw N j ≤ 7 := by
  unfold zLw
  rw [List.getD_eq_getElem?_getD]
  cases e : (lwl N 8)[j]? with
  | none => exact ⟨by decide, by decide⟩
  | some x =>
    have := lwl_m 8 x (List.mem_of_getElem? e)
    show 0 ≤ x ∧ x ≤ 7
    omega
theorem zLw_n {N : Nat → Int} {p : Nat} (hp : p < 8) (hb : bt (N 78) (p : Int) = 1) : zLw N (lwl N p).length = p := by
  have e : lwl N (p + 1) = lwl N p ++ [(p : Int)] := if_pos hb
  rw [zLw_e (p := p + 1) (by omega) (by rw [e, List.length_append, List.length_singleton]; omega), e, List.getD_eq_getElem?_getD, List.getElem?_append_right (Nat.le_refl _), Nat.sub_self]
  rfl
theorem q_fillLowest {b m : Nat} {V J U : Nat → Nat → Int} {R : Nat → Nat → Nat} {N : Nat → Int} (hb : b ≤ 39) (hR : ∀ p : Nat, p < 8 → V (b + 11 + p) 0 = bt (N 78) (p : Int)) (hm : m ≤ 3) (h : f_s_fillLowest b (m : Int) 103 V J R U) : (∀ i : Nat, i ≠ 103 → U i = V i) ∧ ∀ j : Nat, j < m → j < (lwl N 8).length → U 103 j = zLw N j := by
  unfold f_s_fillLowest at h
  obtain ⟨bb, hbb, h⟩ := lop3_g h
  have key : ∀ (f p n : Nat) (Y : Nat → Nat → Int), p ≤ 8 → n = min m (lwl N p).length → (∀ i : Nat, i ≠ 103 → Y i = V i) → (∀ j : Nat, j < n → Y 103 j = zLw N j) → lop3 f bb (p : Int) (n : Int) Y U → (∀ i : Nat, i ≠ 103 → U i = V i) ∧ ∀ j : Nat, j < m → j < (lwl N 8).length → U 103 j = zLw N j := by
    intro f
    induction f with
    | zero => intro p n Y _ _ _ _ h; exact False.elim h
    | succ f ih =>
      intro p n Y hp hn hY hj h
      rw [lop3_s hbb] at h
      by_cases g : (8 : Int) ≤ p
      · rw [if_pos g] at h
        have h : U = Y := h
        subst h
        have ep : p = 8 := by omega
        subst ep
        exact ⟨hY, fun j h1 h2 => hj j (by omega)⟩
      · rw [if_neg g] at h
        have hp8 : p < 8 := by omega
        obtain ⟨c, ec, h⟩ := rdb_g h
        rw [Int.toNat_natCast, Nat.one_mul] at ec
        subst ec
        obtain ⟨z, ez, h⟩ := rdb_g h
        rw [hY _ (by omega), hR p hp8] at ez
        obtain ⟨-, h⟩ := h
        have ls := lwl_s (N := N) (p := p)
        have br := bt_r (N 78) (p : Int)
        have np : ((p : Int) + 1) = ((p + 1 : Nat) : Int) := by omega
        simp only [jnk] at h
        by_cases g0 : z = 0
        · rw [if_pos g0, np] at h
          exact ih (p + 1) n Y (by omega) (by omega) hY hj h
        rw [if_neg g0] at h
        by_cases g1 : (m : Int) ≤ n
        · rw [if_pos g1, np] at h
          exact ih (p + 1) n Y (by omega) (by omega) hY hj h
        rw [if_neg g1, if_neg (by omega)] at h
        obtain ⟨Y2, e2, h⟩ := rdb_g h
        rw [Int.toNat_natCast] at e2
        rw [np, show ((n : Int) + 1) = ((n + 1 : Nat) : Int) by omega] at h
        have nl : n = (lwl N p).length := by omega
        refine ih (p + 1) (n + 1) Y2 (by omega) (by omega) (fun i hi => by rw [← e2, up2_c _ _ hi]; exact hY i hi) (fun j hjn => ?_) h
        rw [← e2, up2_row]
        by_cases e : j = n
        · subst e
          rw [up1_s, nl, zLw_n hp8 (by omega)]
        · rw [up1_n _ _ e]; exact hj j (by omega)
  exact key 10 0 0 V (by decide) (by show 0 = min m 0; omega) (fun _ _ => rfl) (fun j hj => by omega) h
theorem q_laysSome {m : Nat} {W J X : Nat → Nat → Int} {R : Nat → Nat → Nat} {y : Int} (hm : m ≤ 3) (h : f_m_laysSome (m : Int) W J R (y, X)) : (y = if m ≤ (lwl (W 1) 8).length then 1 else 0) ∧ (∀ i : Nat, i ≠ 20 → i ≠ 21 → X i = W i) ∧ (m ≤ (lwl (W 1) 8).length → ∀ j : Nat, j < m → X 20 j = zLw (W 1) j ∧ X 21 j = W 1 (52 + (zLw (W 1) j).toNat)) := by
  unfold f_m_laysSome at h
  obtain ⟨bb, hbb, h⟩ := lop3_g h
  have key : ∀ (f p n : Nat) (Y : Nat → Nat → Int), p ≤ 8 → n = min m (lwl (W 1) p).length → (∀ i : Nat, i ≠ 20 → i ≠ 21 → Y i = W i) → (∀ j : Nat, j < n → Y 20 j = zLw (W 1) j ∧ Y 21 j = W 1 (52 + (zLw (W 1) j).toNat)) → lop3 f bb (p : Int) (n : Int) Y (y, X) → (y = if m ≤ (lwl (W 1) 8).length then 1 else 0) ∧ (∀ i : Nat, i ≠ 20 → i ≠ 21 → X i = W i) ∧ (m ≤ (lwl (W 1) 8).length → ∀ j : Nat, j < m → X 20 j = zLw (W 1) j ∧ X 21 j = W 1 (52 + (zLw (W 1) j).toNat)) := by
    intro f
    induction f with
    | zero => intro p n Y _ _ _ _ h; exact False.elim h
    | succ f ih =>
      intro p n Y hp hn hY hj h
      rw [lop3_s hbb] at h
      simp only [jnk] at h
      have mono : (lwl (W 1) p).length ≤ (lwl (W 1) 8).length := by
        obtain ⟨t, e⟩ := lwl_p (N := W 1) (p := p) (8 - p)
        rw [show p + (8 - p) = 8 by omega] at e
        rw [e, List.length_append]
        omega
      have out : (p = 8 ∨ n = m) → (if ¬ (n : Int) = m then rtn (0, Y) else rtn (1, Y)) (y, X) → (y = if m ≤ (lwl (W 1) 8).length then 1 else 0) ∧ (∀ i : Nat, i ≠ 20 → i ≠ 21 → X i = W i) ∧ (m ≤ (lwl (W 1) 8).length → ∀ j : Nat, j < m → X 20 j = zLw (W 1) j ∧ X 21 j = W 1 (52 + (zLw (W 1) j).toNat)) := fun hc h => by
        by_cases e : (n : Int) = m
        · rw [if_neg (fun hh => hh e)] at h
          simp only [rtn, Prod.mk.injEq] at h
          obtain ⟨rfl, rfl⟩ := h
          rw [if_pos (by omega)]
          exact ⟨rfl, hY, fun _ j hjm => hj j (by omega)⟩
        · rw [if_pos e] at h
          simp only [rtn, Prod.mk.injEq] at h
          obtain ⟨rfl, rfl⟩ := h
          have p8 : p = 8 := by omega
          subst p8
          rw [if_neg (by omega)]
          exact ⟨rfl, hY, fun hh => by omega⟩
      by_cases g : (8 : Int) ≤ p
      · rw [if_pos g] at h
        exact out (Or.inl (by omega)) h
      rw [if_neg g] at h
      by_cases g1 : (m : Int) ≤ n
      · rw [if_pos g1] at h
        exact out (Or.inr (by omega)) h
      rw [if_neg g1] at h
      have hp8 : p < 8 := by omega
      obtain ⟨z, hz, -, h⟩ := h
      have hz := q_mPerson hz
      rw [hY 1 (by decide) (by decide)] at hz
      have ls := lwl_s (N := W 1) (p := p)
      have br := bt_r (W 1 78) (p : Int)
      have np : ((p : Int) + 1) = ((p + 1 : Nat) : Int) := by omega
      by_cases g0 : z = 0
      · rw [if_neg (fun hh => hh g0), np] at h
        have b0 : ¬ bt (W 1 78) (p : Int) = 1 := fun hh => by
          rcases hz with ⟨q, -⟩ | ⟨-, q⟩
          · omega
          · exact q ⟨by omega, by omega, hh⟩
        exact ih (p + 1) n Y (by omega) (by omega) hY hj h
      rw [if_pos g0] at h
      have b1 : bt (W 1 78) (p : Int) = 1 := by
        rcases hz with ⟨-, q⟩ | ⟨q, -⟩
        · exact q.2.2
        · exact absurd q g0
      obtain ⟨Y2, e2, h⟩ := rdb_g h
      rw [Int.toNat_natCast] at e2
      obtain ⟨v, ev, h⟩ := rdb_g h
      rw [← e2, up2_c _ _ (by decide), hY 1 (by decide) (by decide), show ((p : Int) + 52).toNat = 52 + p by omega] at ev
      obtain ⟨Y3, e3, h⟩ := rdb_g h
      rw [Int.toNat_natCast] at e3
      rw [np, show ((n : Int) + 1) = ((n + 1 : Nat) : Int) by omega] at h
      have nl : n = (lwl (W 1) p).length := by omega
      refine ih (p + 1) (n + 1) Y3 (by omega) (by omega) (fun i i1 i2 => by rw [← e3, up2_c _ _ i2, ← e2, up2_c _ _ i1]; exact hY i i1 i2) (fun j hjn => ?_) h
      rw [← e3, up2_c _ _ (by decide), up2_row, ← e2, up2_row, up2_c _ _ (by decide)]
      by_cases e : j = n
      · subst e
        rw [up1_s, up1_s, nl, zLw_n hp8 b1, Int.toNat_natCast, ev]
        exact ⟨rfl, rfl⟩
      · rw [up1_n _ _ e, up1_n _ _ e]; exact hj j (by omega)
  exact key 10 0 0 W (by decide) (by show 0 = min m 0; omega) (fun _ _ _ => rfl) (fun j hj => by omega) h
end
section
-- what is taken on the first side; what can be reckoned on both (own work)
theorem q_take {l m : Nat} {V J U : Nat → Nat → Int} {R : Nat → Nat → Nat} {N : Nat → Int} (hl : l < 4) (hm : m ≤ 3) (hR : RLz 1 V N) (hlen : m ≤ (lwl N 8).length) (h : f_s_take 1 (l : Int) (m : Int) V J R U) :
    (∀ i : Nat, i ≠ 98 → i ≠ 103 → i ≠ 104 → U i = V i) ∧ (U 98 8 = m ∧ U 98 9 = l ∧ U 98 10 = N l ∧ U 98 11 = N (4 + l) ∧ U 98 12 = kndS (N (12 + l)) (N (16 + l)) ∧ U 98 13 = N (8 + l) ∧ U 98 15 = 0) ∧ ∀ j : Nat, j < m → U 103 j = zLw N j ∧ U 104 j = N (52 + (zLw N j).toNat) := by
  obtain ⟨hPl, hPe, -⟩ := hR
  have pl := hPl l hl
  rw [show 1 + 3 + 2 * l = 4 + 2 * l by omega] at pl
  obtain ⟨-, p1, p2, p3, p4, p5, -⟩ := pl
  unfold f_s_take at h
  obtain ⟨c, ec, h⟩ := rdb_g h
  rw [Int.toNat_natCast] at ec
  have ec : c = 4 + 2 * l := by omega
  subst ec
  have c98 : (4 + 2 * l) ≠ 98 := by omega
  obtain ⟨V2, e2, h⟩ := rdb_g h
  obtain ⟨z3, e3, h⟩ := rdb_g h
  obtain ⟨V4, e4, h⟩ := rdb_g h
  obtain ⟨z5, e5, h⟩ := rdb_g h
  obtain ⟨V6, e6, h⟩ := rdb_g h
  obtain ⟨z7, e7, h⟩ := rdb_g h
  obtain ⟨V8, e8, h⟩ := rdb_g h
  obtain ⟨z9, e9, h⟩ := rdb_g h
  obtain ⟨z10, e10, h⟩ := rdb_g h
  obtain ⟨z11, k11, -, h⟩ := h
  have k11 := q_kindOf k11
  obtain ⟨V12, e12, h⟩ := rdb_g h
  obtain ⟨z13, e13, h⟩ := rdb_g h
  obtain ⟨-, h⟩ := h
  obtain ⟨V14, e14, h⟩ := rdb_g h
  obtain ⟨V15, e15, h⟩ := rdb_g h
  rw [← e2, up2_c _ _ c98, p1] at e3
  rw [← e4, up2_c _ _ c98, ← e2, up2_c _ _ c98, p2] at e5
  rw [← e6, up2_c _ _ c98, ← e4, up2_c _ _ c98, ← e2, up2_c _ _ c98, p3] at e7
  rw [← e8, up2_c _ _ c98, ← e6, up2_c _ _ c98, ← e4, up2_c _ _ c98, ← e2, up2_c _ _ c98, p4] at e9
  rw [← e8, up2_c _ _ c98, ← e6, up2_c _ _ c98, ← e4, up2_c _ _ c98, ← e2, up2_c _ _ c98, p5] at e10
  rw [← e9, ← e10] at k11
  have e13 : z13 = (m : Int) := by omega
  subst e13
  have o15 : ∀ i : Nat, i ≠ 98 → V15 i = V i := fun i hi => by rw [← e15, up2_c _ _ hi, ← e14, up2_c _ _ hi, ← e12, up2_c _ _ hi, ← e8, up2_c _ _ hi, ← e6, up2_c _ _ hi, ← e4, up2_c _ _ hi, ← e2, up2_c _ _ hi]
  have a15 : V15 98 8 = m ∧ V15 98 9 = l ∧ V15 98 10 = N l ∧ V15 98 11 = N (4 + l) ∧ V15 98 12 = kndS (N (12 + l)) (N (16 + l)) ∧ V15 98 13 = N (8 + l) ∧ V15 98 15 = 0 := by
    rw [← e15, ← e14, ← e12, ← e8, ← e6, ← e4, ← e2]
    refine ⟨?_, ?_, ?_, ?_, ?_, ?_, ?_⟩
    · rw [up2_n _ _ (Or.inr (by decide)), up2_s]
    · rw [up2_n _ _ (Or.inr (by decide)), up2_n _ _ (Or.inr (by decide)), up2_n _ _ (Or.inr (by decide)), up2_n _ _ (Or.inr (by decide)), up2_n _ _ (Or.inr (by decide)), up2_n _ _ (Or.inr (by decide)), up2_s]
    · rw [up2_n _ _ (Or.inr (by decide)), up2_n _ _ (Or.inr (by decide)), up2_n _ _ (Or.inr (by decide)), up2_n _ _ (Or.inr (by decide)), up2_n _ _ (Or.inr (by decide)), up2_s]; exact e3.symm
    · rw [up2_n _ _ (Or.inr (by decide)), up2_n _ _ (Or.inr (by decide)), up2_n _ _ (Or.inr (by decide)), up2_n _ _ (Or.inr (by decide)), up2_s]; exact e5.symm
    · rw [up2_n _ _ (Or.inr (by decide)), up2_n _ _ (Or.inr (by decide)), up2_s]; exact k11
    · rw [up2_n _ _ (Or.inr (by decide)), up2_n _ _ (Or.inr (by decide)), up2_n _ _ (Or.inr (by decide)), up2_s]; exact e7.symm
    · rw [up2_s]
  clear e15 e14 e12 e8 e6 e4 e2 e3 e5 e7 e9 e10 k11
  obtain ⟨V16, k16, -, h⟩ := h
  obtain ⟨f1, f2⟩ := q_fillLowest (b := 1) (N := N) (by decide) (fun p hp => by rw [o15 _ (by omega)]; exact (hPe p hp).1) hm k16
  have a16 : V16 98 = V15 98 := f1 98 (by decide)
  obtain ⟨bb, hbb, h⟩ := lop2_g h
  have key : ∀ (f i : Nat) (Y : Nat → Nat → Int), i ≤ m → (∀ j : Nat, j ≠ 104 → Y j = V16 j) → (∀ j : Nat, j < i → Y 104 j = N (52 + (zLw N j).toNat)) → lop2 f bb (i : Int) Y U → (∀ j : Nat, j ≠ 104 → U j = V16 j) ∧ ∀ j : Nat, j < m → U 104 j = N (52 + (zLw N j).toNat) := by
    intro f
    induction f with
    | zero => intro i Y _ _ _ h; exact False.elim h
    | succ f ih =>
      intro i Y hi hY hj h
      rw [lop2_s hbb] at h
      obtain ⟨-, h⟩ := h
      rw [hY 98 (by decide), a16, a15.1] at h
      by_cases g : (m : Int) ≤ i
      · rw [if_pos g] at h
        have h : U = Y := h
        subst h
        exact ⟨hY, fun j hjm => hj j (by omega)⟩
      · rw [if_neg g] at h
        obtain ⟨w, ew, h⟩ := rdb_g h
        rw [hY 103 (by decide), Int.toNat_natCast, f2 i (by omega) (by omega)] at ew
        subst ew
        obtain ⟨-, h⟩ := h
        obtain ⟨c, ec, h⟩ := rdb_g h
        have ec : c = 12 + (zLw N i).toNat := by omega
        subst ec
        obtain ⟨v, ev, h⟩ := rdb_g h
        have zr := zLw_r (N := N) i
        have pe := hPe (zLw N i).toNat (by omega)
        rw [show 1 + 11 + (zLw N i).toNat = 12 + (zLw N i).toNat by omega] at pe
        rw [hY _ (by omega), f1 _ (by omega), o15 _ (by omega), pe.2.1] at ev
        obtain ⟨Y2, e2, h⟩ := rdb_g h
        rw [Int.toNat_natCast] at e2
        rw [show ((i : Int) + 1) = ((i + 1 : Nat) : Int) by omega] at h
        refine ih (i + 1) Y2 (by omega) (fun j hjn => by rw [← e2, up2_c _ _ hjn]; exact hY j hjn) (fun j hjn => ?_) h
        rw [← e2, up2_row]
        by_cases e : j = i
        · subst e; rw [up1_s, ev]
        · rw [up1_n _ _ e]; exact hj j (by omega)
  obtain ⟨g1, g2⟩ := key 5 0 V16 (Nat.zero_le _) (fun _ _ => rfl) (fun j hj => by omega) h
  refine ⟨fun i i1 i2 i3 => by rw [g1 i i3, f1 i i2, o15 i i1], ?_, fun j hj => ⟨?_, g2 j hj⟩⟩
  · rw [g1 98 (by decide), a16]; exact a15
  · rw [g1 103 (by decide)]; exact f2 j hj (by omega)
/-- PLANTS as they can be: a POT that holds, never DRY and DROWNED at once; tenths -/
def zEw (N : Nat → Int) : Prop := (∀ l : Nat, l < 4 → bt (N 76) (l : Int) = 1 → 4 ≤ N l ∧ N (4 + l) ≤ N l ∧ 1 ≤ N (8 + l) ∧ (N (12 + l) = 0 ∨ N (16 + l) = 0)) ∧ ∀ p : Nat, p < 8 → 0 ≤ N (52 + p) ∧ N (52 + p) ≤ 10
/-- what is there to reckon with, on both sides: PLANT l, n DAYS, m PEOPLE -/
def zCn (N : Nat → Int) (l n m : Nat) : Prop := l < 4 ∧ (1 ≤ n ∧ n ≤ 9) ∧ (1 ≤ m ∧ m ≤ 3) ∧ n * (m + 1) ≤ 18 ∧ m ≤ (lwl N 8).length ∧ bt (N 76) (l : Int) = 1 ∧ ¬ bt (N 77) (l : Int) = 1
theorem w_go {l n m z y : Int} {V J W Jm X : Nat → Nat → Int} {R Rm : Nat → Nat → Nat} (h : RLz 1 V (W 1)) (hx : f_s_canReckon l n m V J R z) (hm : f_m_canGo l n m W Jm Rm (y, X)) : z = y ∧ (∀ i : Nat, i ≠ 0 → i ≠ 20 → i ≠ 21 → X i = W i) ∧ (∀ k : Nat, k ≠ 33 → k ≠ 34 → X 0 k = W 0 k) ∧
    (y = 0 ∨ y = 1 ∧ ∃ l2 n2 m2 : Nat, l = (l2 : Int) ∧ n = (n2 : Int) ∧ m = (m2 : Int) ∧ zCn (W 1) l2 n2 m2 ∧ X 0 33 = l ∧ X 0 34 = W 1 (4 + l2) ∧ ∀ j : Nat, j < m2 → X 20 j = zLw (W 1) j ∧ X 21 j = W 1 (52 + (zLw (W 1) j).toNat)) := by
  unfold f_s_canReckon at hx
  unfold f_m_canGo at hm
  obtain ⟨x1, a1, -, hx⟩ := hx
  obtain ⟨y1, b1, -, hm⟩ := hm
  have e1 := (q_sAlive a1).eq (q_mLives b1) h.isA
  have q1 := q_mLives b1
  have no : ∀ X2 : Nat → Nat → Int, (∀ i : Nat, i ≠ 0 → i ≠ 20 → i ≠ 21 → X2 i = W i) → (∀ k : Nat, k ≠ 33 → k ≠ 34 → X2 0 k = W 0 k) → z = 0 → rtn (0, X2) (y, X) → z = y ∧ (∀ i : Nat, i ≠ 0 → i ≠ 20 → i ≠ 21 → X i = W i) ∧ (∀ k : Nat, k ≠ 33 → k ≠ 34 → X 0 k = W 0 k) ∧
    (y = 0 ∨ y = 1 ∧ ∃ l2 n2 m2 : Nat, l = (l2 : Int) ∧ n = (n2 : Int) ∧ m = (m2 : Int) ∧ zCn (W 1) l2 n2 m2 ∧ X 0 33 = l ∧ X 0 34 = W 1 (4 + l2) ∧ ∀ j : Nat, j < m2 → X 20 j = zLw (W 1) j ∧ X 21 j = W 1 (52 + (zLw (W 1) j).toNat)) := fun X2 h1 h2 hz hh => by
    simp only [rtn, Prod.mk.injEq] at hh
    obtain ⟨rfl, rfl⟩ := hh
    exact ⟨hz, h1, h2, Or.inl rfl⟩
  by_cases g1 : y1 = 0
  · rw [if_pos (by omega)] at hx
    rw [if_pos g1] at hm
    exact no W (fun _ _ _ _ => rfl) (fun _ _ _ => rfl) hx hm
  rw [if_neg (by omega)] at hx
  rw [if_neg g1] at hm
  have liv : (0 ≤ l ∧ l < 4 ∧ bt (W 1 76) l = 1) ∧ ¬ bt (W 1 77) l = 1 := by
    rcases q1 with ⟨-, q⟩ | ⟨q, -⟩
    · exact q
    · exact absurd q g1
  obtain ⟨l2, rfl⟩ : ∃ l2 : Nat, l = (l2 : Int) := ⟨l.toNat, by omega⟩
  obtain ⟨_, -, -, hm⟩ := rdb_g hm
  obtain ⟨_, -, -, hm⟩ := rdb_g hm
  obtain ⟨x2, a2, -, hx⟩ := hx
  obtain ⟨y2, b2, -, hm⟩ := hm
  have e2 := (q_within a2).eq (q_in b2) Iff.rfl
  have q2 := q_in b2
  by_cases g2 : y2 = 0
  · rw [if_pos (by omega)] at hx
    rw [if_pos g2] at hm
    exact no W (fun _ _ _ _ => rfl) (fun _ _ _ => rfl) hx hm
  rw [if_neg (by omega)] at hx
  rw [if_neg g2] at hm
  have hn : 1 ≤ n ∧ n ≤ 9 := by
    rcases q2 with ⟨-, q⟩ | ⟨q, -⟩
    · exact q
    · exact absurd q g2
  obtain ⟨n2, rfl⟩ : ∃ n2 : Nat, n = (n2 : Int) := ⟨n.toNat, by omega⟩
  obtain ⟨x3, a3, -, hx⟩ := hx
  obtain ⟨y3, b3, -, hm⟩ := hm
  unfold f_s_areTold at a3
  obtain ⟨x4, a4, -, a3⟩ := a3
  have e3 := (q_within a4).eq (q_in b3) Iff.rfl
  have q3 := q_in b3
  by_cases g3 : y3 = 0
  · rw [if_pos (by omega)] at a3
    have a3 : x3 = 0 := a3
    rw [if_pos a3] at hx
    rw [if_pos g3] at hm
    exact no W (fun _ _ _ _ => rfl) (fun _ _ _ => rfl) hx hm
  rw [if_neg (by omega)] at a3
  rw [if_neg g3] at hm
  have hmm : 1 ≤ m ∧ m ≤ 3 := by
    rcases q3 with ⟨-, q⟩ | ⟨q, -⟩
    · exact q
    · exact absurd q g3
  obtain ⟨m2, rfl⟩ : ∃ m2 : Nat, m = (m2 : Int) := ⟨m.toNat, by omega⟩
  obtain ⟨told, et, a3⟩ := rdb_g a3
  have ln := lwl_n (N := W 1)
  rw [h.2.2.1, ← ln] at et
  obtain ⟨p, ep, -, hm⟩ := rdb_g hm
  have epn : p = ((n2 * (m2 + 1) : Nat) : Int) := by rw [← ep]; simp
  by_cases g5 : told < (m2 : Int)
  · rw [if_pos g5] at a3
    have a3 : x3 = 0 := a3
    rw [if_pos a3] at hx
    by_cases g6 : 18 < p
    · rw [if_pos g6] at hm
      exact no W (fun _ _ _ _ => rfl) (fun _ _ _ => rfl) hx hm
    rw [if_neg g6] at hm
    obtain ⟨y7, X7, b7, -, -, hm⟩ := hm
    obtain ⟨c1, c2, -⟩ := q_laysSome (by omega) b7
    rw [if_neg (by omega)] at c1
    rw [if_neg (fun hh => hh c1)] at hm
    exact no X7 (fun i i1 i2 i3 => c2 i i2 i3) (fun k _ _ => by rw [c2 0 (by decide) (by decide)]) hx hm
  rw [if_neg g5] at a3
  have a3 : x3 = 1 := a3
  rw [if_neg (by omega)] at hx
  obtain ⟨px, epx, -, hx⟩ := rdb_g hx
  have e4 : px = p := by rw [← epx, ← ep]
  subst e4
  by_cases g6 : 18 < px
  · rw [if_pos g6] at hx hm
    exact no W (fun _ _ _ _ => rfl) (fun _ _ _ => rfl) hx hm
  rw [if_neg g6] at hx hm
  have hx : z = 1 := hx
  obtain ⟨y7, X7, b7, -, -, hm⟩ := hm
  obtain ⟨c1, c2, c3⟩ := q_laysSome (by omega) b7
  rw [if_pos (by omega)] at c1
  rw [if_pos (by omega)] at hm
  obtain ⟨X8, e8, hm⟩ := rdb_g hm
  obtain ⟨w, ew, hm⟩ := rdb_g hm
  rw [← e8, up2_c _ _ (by decide), c2 1 (by decide) (by decide), show ((l2 : Int) + 4).toNat = 4 + l2 by omega] at ew
  subst ew
  obtain ⟨-, hm⟩ := hm
  simp only [rdb, rtn, Prod.mk.injEq] at hm
  obtain ⟨rfl, hX⟩ := hm
  have xo : ∀ i : Nat, i ≠ 0 → X i = X7 i := fun i hi => by rw [hX, up2_c _ _ hi, ← e8, up2_c _ _ hi]
  refine ⟨hx, fun i i1 i2 i3 => by rw [xo i i1]; exact c2 i i2 i3, fun k k1 k2 => ?_, Or.inr ⟨rfl, l2, n2, m2, rfl, rfl, rfl, ⟨by omega, by omega, by omega, by omega, by omega, liv.1.2.2, liv.2⟩, ?_, ?_, fun j hj => ?_⟩⟩
  · rw [hX, up2_n _ _ (Or.inr k2), ← e8, up2_n _ _ (Or.inr k1), c2 0 (by decide) (by decide)]
  · rw [hX, up2_n _ _ (Or.inr (by decide)), ← e8, up2_s]
  · rw [hX, up2_s]
  · rw [xo 20 (by decide), xo 21 (by decide)]
    exact c3 (by omega) j hj
end
