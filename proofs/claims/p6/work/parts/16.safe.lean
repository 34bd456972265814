-- safety: every number of the store lies in its range; places that are watched keep what they hold
abbrev fullI : Int × Int := (-2147483648, 2147483647)
def rgP : Nat → Int × Int
  | 0 => (0, 1)
  | 6 => (0, 1)
  | _ => fullI
def rgE : Nat → Int × Int
  | 0 => (0, 1)
  | 2 => (0, 3)
  | _ => fullI
def rgT : Nat → Int × Int
  | 1 => (0, 200)
  | 5 => (0, 14)
  | _ => fullI
def rgC : Nat → Int × Int
  | 4 => (0, 475)
  | 5 => (0, 475)
  | 8 => (0, 3)
  | _ => fullI
def rgW : Nat → Int × Int
  | 4 => (0, 3)
  | 5 => (0, 3)
  | _ => fullI
def rgA : Nat → Int × Int
  | 3 => (0, 1)
  | _ => fullI
def rgLa (r k : Nat) : Int × Int := if r < 3 then fullI else if r < 11 then (if (r - 3) % 2 = 0 then rgP k else fullI) else rgE k
def rgTx (r k : Nat) : Int × Int := if r = 0 then rgT k else if r = 2 then (0, 65535) else fullI
def rgX (i k : Nat) : Int × Int :=
  if i = 0 then (0, 1)
  else if i < 58 then rgLa ((i - 1) % 19) k
  else if i = 58 then (0, 220)
  else if i < 61 then fullI
  else if i < 66 then rgTx (i - 61) k
  else if i < 69 then fullI
  else if i = 69 then rgA k
  else if i < 73 then fullI
  else if i < 98 then rgTx ((i - 73) % 5) k
  else if i = 98 then rgC k
  else if i < 101 then fullI
  else if i < 103 then (0, 474)
  else if i = 103 then (0, 7)
  else if i = 104 then fullI
  else if i = 105 then rgW k
  else if i = 106 then fullI
  else if i < 110 then (0, 7)
  else if i < 124 then (if i % 2 = 0 then rgP k else fullI)
  else if i = 124 then (0, 84)
  else fullI
/-- the watched places: told and card of the plants that are and that are kept; whether something is kept -/
def prX (i k : Nat) : Bool := (i == 0 && k == 3) || ((i == 4 || i == 6 || i == 8 || i == 10 || i == 23 || i == 25 || i == 27 || i == 29) && (k == 0 || k == 6))
abbrev subI (x : Int × Int) : Prop := -2147483648 ≤ x.1 ∧ x.2 ≤ 2147483647
theorem rgP_s (k : Nat) : subI (rgP k) := by unfold rgP; split <;> decide
theorem rgE_s (k : Nat) : subI (rgE k) := by unfold rgE; split <;> decide
theorem rgT_s (k : Nat) : subI (rgT k) := by unfold rgT; split <;> decide
theorem rgC_s (k : Nat) : subI (rgC k) := by unfold rgC; split <;> decide
theorem rgW_s (k : Nat) : subI (rgW k) := by unfold rgW; split <;> decide
theorem rgA_s (k : Nat) : subI (rgA k) := by unfold rgA; split <;> decide
theorem rgLa_s (r k : Nat) : subI (rgLa r k) := by
  unfold rgLa
  split
  · decide
  · split
    · split
      · exact rgP_s k
      · decide
    · exact rgE_s k
theorem rgTx_s (r k : Nat) : subI (rgTx r k) := by
  unfold rgTx
  split
  · exact rgT_s k
  · split <;> decide
theorem ite_s {q : Prop} {dq : Decidable q} {x y : Int × Int} (h1 : subI x) (h2 : subI y) : subI (if q then x else y) := by
  by_cases h : q
  · rw [if_pos h]; exact h1
  · rw [if_neg h]; exact h2
theorem rgX_s (i k : Nat) : subI (rgX i k) := by
  have f : subI fullI := by decide
  exact ite_s (by decide) (ite_s (rgLa_s _ _) (ite_s (by decide) (ite_s f (ite_s (rgTx_s _ _) (ite_s f (ite_s (rgA_s _) (ite_s f (ite_s (rgTx_s _ _) (ite_s (rgC_s _) (ite_s f (ite_s (by decide) (ite_s (by decide) (ite_s f (ite_s (rgW_s _) (ite_s f (ite_s (by decide) (ite_s (ite_s (rgP_s _) f) (ite_s (by decide) f))))))))))))))))))
abbrev isW (a : Nat) : Prop := a = 99 ∨ a = 100
abbrev isSt (a : Nat) : Prop := a = 101 ∨ a = 102
abbrev isWho (a : Nat) : Prop := a = 103 ∨ a = 107
def rfX (i k a : Nat) : Prop :=
  if i = 60 then (k = 0 → isTx a) else if i = 72 then (k = 1 → isTx a) else if i = 66 then (k < 4 → isTx a) else if i = 98 then ((k < 2 → isW a) ∧ (k = 2 ∨ k = 3 → isSt a)) else True
def XI (G V : Nat → Nat → Int) : Prop := ∀ i k : Nat, ((rgX i k).1 ≤ V i k ∧ V i k ≤ (rgX i k).2) ∧ (prX i k = true → V i k = G i k)
def XR (Rr : Nat → Nat → Nat) : Prop := ∀ i k : Nat, rfX i k (Rr i k)
/-- safe: a state of the class -/
def XS (G : Nat → Nat → Int) (u : xS) : Prop := XI G u.1 ∧ VJ u.2.1 ∧ XR u.2.2
theorem XI.rd {G V : Nat → Nat → Int} (h : XI G V) (i k : Nat) {x y : Int} (hr : rgX i k = (x, y)) : ∃ z : Int, V i k = z ∧ x ≤ z ∧ z ≤ y := by
  have := (h i k).1
  rw [hr] at this
  exact ⟨_, rfl, this⟩
theorem XI.up {G V W : Nat → Nat → Int} (h : XI G V) {i k : Nat} {a : Int} (hW : W = up2 V i k a) {x y : Int} (hr : rgX i k = (x, y)) (ha : x ≤ a ∧ a ≤ y) (hp : prX i k = false) : XI G W := by
  subst hW
  intro j q
  by_cases e : j = i ∧ q = k
  · obtain ⟨rfl, rfl⟩ := e
    rw [up2_s, hr]
    exact ⟨ha, fun hh => by rw [hp] at hh; cases hh⟩
  · rw [up2_n _ _ (by omega)]
    exact h j q
theorem XI.vr {G V : Nat → Nat → Int} (h : XI G V) : VR V := fun i k => ⟨Int.le_trans (rgX_s i k).1 (h i k).1.1, Int.le_trans (h i k).1.2 (rgX_s i k).2⟩
theorem VJ.rd {J : Nat → Nat → Int} (h : VJ J) (i k : Nat) : ∃ z : Int, J i k = z ∧ R64 z := ⟨_, rfl, h i k⟩
theorem VJ.upS {J W : Nat → Nat → Int} (h : VJ J) {i k : Nat} {a : Int} (hW : W = up2 J i k a) (ha : R64 a) : VJ W := by subst hW; exact VJ_up h ha
theorem XR.up {Rr W : Nat → Nat → Nat} (h : XR Rr) {i k a : Nat} (hW : W = up2 Rr i k a) (ha : rfX i k a) : XR W := by
  subst hW
  intro j q
  by_cases e : j = i ∧ q = k
  · obtain ⟨rfl, rfl⟩ := e
    rw [up2_s]
    exact ha
  · rw [up2_n _ _ (by omega)]
    exact h j q
theorem XR.law {Rr : Nat → Nat → Nat} (h : XR Rr) : ∃ t, Rr 60 0 = t ∧ isTx t := ⟨_, rfl, (h 60 0) rfl⟩
theorem XR.into {Rr : Nat → Nat → Nat} (h : XR Rr) : ∃ t, Rr 72 1 = t ∧ isTx t := ⟨_, rfl, (h 72 1) rfl⟩
theorem XR.rule {Rr : Nat → Nat → Nat} (h : XR Rr) {k : Nat} (hk : k < 4) : ∃ t, Rr 66 k = t ∧ isTx t := ⟨_, rfl, (h 66 k) hk⟩
theorem XR.w {Rr : Nat → Nat → Nat} (h : XR Rr) {k : Nat} (hk : k < 2) : ∃ t, Rr 98 k = t ∧ isW t := ⟨_, rfl, (h 98 k).1 hk⟩
theorem XR.st {Rr : Nat → Nat → Nat} (h : XR Rr) {k : Nat} (hk : k = 2 ∨ k = 3) : ∃ t, Rr 98 k = t ∧ isSt t := ⟨_, rfl, (h 98 k).2 hk⟩
theorem xd_Wt {w : Nat} (h : isW w) : xdsc w = .inr (1, 475, 1, 0, 0) := by rcases h with rfl | rfl <;> rfl
theorem xd_St {w : Nat} (h : isSt w) : xdsc w = .inr (0, 475, 0, 0, 0) := by rcases h with rfl | rfl <;> rfl
theorem rg_St {w : Nat} (h : isSt w) (k : Nat) : rgX w k = (0, 474) := by rcases h with rfl | rfl <;> rfl
theorem pr_St {w : Nat} (h : isSt w) (k : Nat) : prX w k = false := by rcases h with rfl | rfl <;> rfl
theorem xd_Who {w : Nat} (h : isWho w) : xdsc w = .inr (0, 3, 0, 0, 0) := by rcases h with rfl | rfl <;> rfl
theorem rg_Who {w : Nat} (h : isWho w) (k : Nat) : rgX w k = (0, 7) := by rcases h with rfl | rfl <;> rfl
theorem pr_Who {w : Nat} (h : isWho w) (k : Nat) : prX w k = false := by rcases h with rfl | rfl <;> rfl
abbrev plL : List Nat := [4, 6, 8, 10, 23, 25, 27, 29, 42, 44, 46, 48, 110, 112, 114, 116, 118, 120, 122]
def xkind : xD → Nat
  | .inl (n, _) => n
  | .inr _ => 99
theorem isPl_in0 : ∀ c : Nat, c < 129 → xkind (xdsc c) = 5 → c ∈ plL := by decide +kernel
theorem isPl_in (c : Nat) (h : c < 129) (hd : xdsc c = .inl (5, [0, 0, 0, 0, 0, 0, 0, 0, c + 4])) : c ∈ plL := isPl_in0 c h (by rw [hd]; rfl)
theorem rg_P {c : Nat} (h : isPl c) (k : Nat) : rgX c k = rgP k := by
  have hh := isPl_in c (by omega) h.2.1
  simp only [plL, List.mem_cons, List.not_mem_nil, or_false] at hh
  rcases hh with rfl | rfl | rfl | rfl | rfl | rfl | rfl | rfl | rfl | rfl | rfl | rfl | rfl | rfl | rfl | rfl | rfl | rfl | rfl <;> rfl
theorem rg_K {c : Nat} (h : isPl c) (k : Nat) : rgX (c + 1) k = fullI := by
  have hh := isPl_in c (by omega) h.2.1
  simp only [plL, List.mem_cons, List.not_mem_nil, or_false] at hh
  rcases hh with rfl | rfl | rfl | rfl | rfl | rfl | rfl | rfl | rfl | rfl | rfl | rfl | rfl | rfl | rfl | rfl | rfl | rfl | rfl <;> rfl
theorem pr_K {c : Nat} (h : isPl c) (k : Nat) : prX (c + 1) k = false := by
  have hh := isPl_in c (by omega) h.2.1
  simp only [plL, List.mem_cons, List.not_mem_nil, or_false] at hh
  rcases hh with rfl | rfl | rfl | rfl | rfl | rfl | rfl | rfl | rfl | rfl | rfl | rfl | rfl | rfl | rfl | rfl | rfl | rfl | rfl <;> rfl
theorem pr_P {c : Nat} (h : isPl c) {k : Nat} (h0 : (k == 0) = false) (h6 : (k == 6) = false) : prX c k = false := by
  have hh := isPl_in c (by omega) h.2.1
  have hc : (c == 0) = false := by
    cases hx : (c == 0) with
    | false => rfl
    | true =>
      have := eq_of_beq hx
      subst this
      revert hh; decide
  simp [prX, h0, h6, hc]
theorem rg_Pt {b l : Nat} (hb : isLa b) (hl : l < 4) (k : Nat) : rgX (b + 3 + 2 * l) k = rgP k := rg_P (isPl_L hb hl) k
abbrev peL : List Nat := [12, 13, 14, 15, 16, 17, 18, 19, 31, 32, 33, 34, 35, 36, 37, 38, 50, 51, 52, 53, 54, 55, 56, 57]
theorem isPe_in0 : ∀ c : Nat, c < 129 → xkind (xdsc c) = 4 → c ∈ peL := by decide +kernel
theorem isPe_in (c : Nat) (h : c < 129) (hd : xdsc c = .inl (4, [0, 0, 0, 0])) : c ∈ peL := isPe_in0 c h (by rw [hd]; rfl)
theorem rg_E {c : Nat} (h : isPe c) (k : Nat) : rgX c k = rgE k := by
  have hh := isPe_in c h.1 h.2
  simp only [peL, List.mem_cons, List.not_mem_nil, or_false] at hh
  rcases hh with rfl | rfl | rfl | rfl | rfl | rfl | rfl | rfl | rfl | rfl | rfl | rfl | rfl | rfl | rfl | rfl | rfl | rfl | rfl | rfl | rfl | rfl | rfl | rfl <;> rfl
theorem pr_E {c : Nat} (h : isPe c) (k : Nat) : prX c k = false := by
  have hh := isPe_in c h.1 h.2
  simp only [peL, List.mem_cons, List.not_mem_nil, or_false] at hh
  rcases hh with rfl | rfl | rfl | rfl | rfl | rfl | rfl | rfl | rfl | rfl | rfl | rfl | rfl | rfl | rfl | rfl | rfl | rfl | rfl | rfl | rfl | rfl | rfl | rfl <;> rfl
theorem rg_L {b : Nat} (h : isLa b) (k : Nat) : rgX b k = fullI := by rcases h with rfl | rfl | rfl <;> rfl
theorem pr_L {b : Nat} (h : isLa b) (k : Nat) : prX b k = false := by rcases h with rfl | rfl | rfl <;> rfl
theorem rg_T {t : Nat} (h : isTx t) (k : Nat) : rgX t k = rgT k := by rcases h with rfl | rfl | rfl | rfl | rfl | rfl <;> rfl
theorem rg_T1 {t : Nat} (h : isTx t) (k : Nat) : rgX (t + 1) k = fullI := by rcases h with rfl | rfl | rfl | rfl | rfl | rfl <;> rfl
theorem rg_T2 {t : Nat} (h : isTx t) (k : Nat) : rgX (t + 2) k = (0, 65535) := by rcases h with rfl | rfl | rfl | rfl | rfl | rfl <;> rfl
theorem rg_T3 {t : Nat} (h : isTx t) (k : Nat) : rgX (t + 3) k = fullI := by rcases h with rfl | rfl | rfl | rfl | rfl | rfl <;> rfl
theorem rg_T4 {t : Nat} (h : isTx t) (k : Nat) : rgX (t + 4) k = fullI := by rcases h with rfl | rfl | rfl | rfl | rfl | rfl <;> rfl
theorem pr_T {t : Nat} (h : isTx t) (k : Nat) : prX t k = false := by rcases h with rfl | rfl | rfl | rfl | rfl | rfl <;> rfl
theorem pr_T1 {t : Nat} (h : isTx t) (k : Nat) : prX (t + 1) k = false := by rcases h with rfl | rfl | rfl | rfl | rfl | rfl <;> rfl
theorem pr_T2 {t : Nat} (h : isTx t) (k : Nat) : prX (t + 2) k = false := by rcases h with rfl | rfl | rfl | rfl | rfl | rfl <;> rfl
theorem pr_T3 {t : Nat} (h : isTx t) (k : Nat) : prX (t + 3) k = false := by rcases h with rfl | rfl | rfl | rfl | rfl | rfl <;> rfl
theorem pr_T4 {t : Nat} (h : isTx t) (k : Nat) : prX (t + 4) k = false := by rcases h with rfl | rfl | rfl | rfl | rfl | rfl <;> rfl
/-- an answer of 0 or 1; what a 1 says -/
def Sp (z : Int) (P : Prop) : Prop := z = 0 ∨ z = 1 ∧ P
theorem Sp.r {z : Int} {P : Prop} (h : Sp z P) : 0 ≤ z ∧ z ≤ 1 := by rcases h with h | ⟨h, -⟩ <;> omega
theorem Sp.on {z : Int} {P : Prop} (h : Sp z P) (hz : ¬ z = 0) : P := by
  rcases h with h | ⟨-, h⟩
  · exact absurd h hz
  · exact h
theorem Sp.mono {z : Int} {P P2 : Prop} (h : Sp z P) (k : P → P2) : Sp z P2 := by
  rcases h with h | ⟨h, hp⟩
  · exact Or.inl h
  · exact Or.inr ⟨h, k hp⟩
theorem tdiv_b (a : Int) {b : Int} (hb : 0 < b) : (0 ≤ a → 0 ≤ a.tdiv b ∧ a.tdiv b ≤ a) ∧ (a < 0 → a ≤ a.tdiv b ∧ a.tdiv b ≤ 0) := by
  have pos : ∀ x : Int, 0 ≤ x → 0 ≤ x.tdiv b ∧ x.tdiv b ≤ x := fun x hx => by
    rw [Int.tdiv_eq_ediv_of_nonneg hx]
    exact ⟨Int.ediv_nonneg hx (by omega), Int.ediv_le_self _ hx⟩
  refine ⟨pos a, fun h => ?_⟩
  have := pos (-a) (by omega)
  rw [Int.neg_tdiv] at this
  omega
theorem tmod_b (a : Int) {b : Int} (hb : 0 < b) : (0 ≤ a → 0 ≤ a.tmod b ∧ a.tmod b < b) ∧ (a < 0 → -b < a.tmod b ∧ a.tmod b ≤ 0) := by
  have pos : ∀ x : Int, 0 ≤ x → 0 ≤ x.tmod b ∧ x.tmod b < b := fun x hx => by
    rw [Int.tmod_eq_emod_of_nonneg hx]
    exact ⟨Int.emod_nonneg _ (by omega), Int.emod_lt_of_pos _ hb⟩
  refine ⟨pos a, fun h => ?_⟩
  have := pos (-a) (by omega)
  rw [Int.neg_tmod] at this
  omega
theorem iDivE {a b : Int} (ha : R32 a) (hb : 0 < b ∧ b ≤ 2147483647) : Int32.ofInt a / Int32.ofInt b = Int32.ofInt (a.tdiv b) := by
  have h := tdiv_b a hb.1
  have hn : Int32.ofInt b ≠ -1 := fun e => by
    have e := congrArg Int32.toInt e
    rw [xi_toInt ⟨by omega, by omega⟩, show (-1 : Int32).toInt = -1 by decide] at e
    omega
  refine Int32.toInt_inj.mp ?_
  rw [Int32.toInt_div_of_ne_right _ _ hn, xi_toInt ha, xi_toInt (a := b) ⟨by omega, by omega⟩, xi_toInt]
  rcases Int.lt_or_le a 0 with g | g
  · have := h.2 g; exact ⟨by omega, by omega⟩
  · have := h.1 g; exact ⟨by omega, by omega⟩
theorem iDiv_e {a b : Int} (ha : R32 a) (hb : 0 < b ∧ b ≤ 2147483647) : iDiv a b = a.tdiv b := by
  have h := tdiv_b a hb.1
  rw [iDiv, iDivE ha hb, xi_toInt]
  rcases Int.lt_or_le a 0 with g | g
  · have := h.2 g; exact ⟨by omega, by omega⟩
  · have := h.1 g; exact ⟨by omega, by omega⟩
theorem iRem_e {a b : Int} (ha : R32 a) (hb : 0 < b ∧ b ≤ 2147483647) : iRem a b = a.tmod b := by
  have h := tmod_b a hb.1
  rw [iRem, iDivE ha hb, ← Int32.ofInt_mul, ← Int32.ofInt_sub, show a - a.tdiv b * b = a.tmod b by rw [Int.tmod_def, Int.mul_comm]]
  rw [xi_toInt]
  rcases Int.lt_or_le a 0 with g | g
  · have := h.2 g; exact ⟨by omega, by omega⟩
  · have := h.1 g; exact ⟨by omega, by omega⟩
theorem iDiv_n {a b A : Int} (ha : 0 ≤ a ∧ a ≤ A ∧ A ≤ 2147483647) (hb : 0 < b ∧ b ≤ 2147483647) : 0 ≤ iDiv a b ∧ iDiv a b ≤ A := by
  rw [iDiv_e ⟨by omega, by omega⟩ hb]
  have := (tdiv_b a hb.1).1 ha.1
  omega
theorem iRem_n {a b B : Int} (ha : 0 ≤ a ∧ a ≤ 2147483647) (hb : 0 < b ∧ b ≤ B + 1 ∧ b ≤ 2147483647) : 0 ≤ iRem a b ∧ iRem a b ≤ B := by
  rw [iRem_e ⟨by omega, by omega⟩ ⟨by omega, by omega⟩]
  have := (tmod_b a hb.1).1 ha.1
  omega
theorem iRem_m {a b B : Int} (ha : R32 a) (hb : 0 < b ∧ b ≤ B + 1 ∧ b ≤ 2147483647) : -B ≤ iRem a b ∧ iRem a b ≤ B := by
  rw [iRem_e ha ⟨by omega, by omega⟩]
  have := tmod_b a hb.1
  rcases Int.lt_or_le a 0 with g | g
  · have := this.2 g; omega
  · have := this.1 g; omega
theorem iAnd_leB (y : Int) {q B : Int} (h : 0 ≤ q ∧ q ≤ B ∧ B ≤ 2147483647) : 0 ≤ iAnd y q ∧ iAnd y q ≤ B := by
  have := iAnd_le y (q := q) (by omega)
  omega
theorem iAnd_comm (x y : Int) : iAnd x y = iAnd y x := by
  unfold iAnd
  rw [Int32.and_comm]
theorem iAnd_leA (y : Int) {q B : Int} (h : 0 ≤ q ∧ q ≤ B ∧ B ≤ 2147483647) : 0 ≤ iAnd q y ∧ iAnd q y ≤ B := by
  rw [iAnd_comm]
  exact iAnd_leB y h
theorem mulB {x y A B : Int} (hx : 0 ≤ x ∧ x ≤ A) (hy : 0 ≤ y ∧ y ≤ B) : ∃ z : Int, x * y = z ∧ (0 ≤ z ∧ z ≤ A * B) :=
  ⟨_, rfl, Int.mul_nonneg hx.1 hy.1, Int.mul_le_mul hx.2 hy.2 hy.1 (by omega)⟩
theorem iB_r (a : Int) : -128 ≤ iB a ∧ iB a ≤ 127 := by
  unfold iB
  generalize (Int32.ofInt a).toInt8 = v
  rw [Int8.toInt_toInt32]
  have h1 := v.le_toInt
  have h2 := v.toInt_lt
  omega
theorem iB_nar2 {a : Int} (h : -128 ≤ a ∧ a ≤ 127) : vp_nar .byte (Int32.ofInt a) = Int32.ofInt a := by
  rw [vp_nar_byte]
  refine Int32.toInt_inj.mp ?_
  rw [Int8.toInt_toInt32, Int32.toInt_toInt8, xi_toInt ⟨by omega, by omega⟩]
  rw [Int.bmod_eq_of_le] <;> omega
theorem lcI_r2 (x y : Int) : -1 ≤ lcI x y ∧ lcI x y ≤ 1 := by
  unfold lcI
  split
  · omega
  · split <;> omega
theorem XI.cp {G V W : Nat → Nat → Int} (h : XI G V) {i sp j dp n : Nat} (hW : W = cpV V i sp j dp n) {x y : Int} (hi : ∀ k, rgX i k = (x, y)) (hj : ∀ k, rgX j k = (x, y)) (hp : ∀ k, prX j k = false) : XI G W := by
  subst hW
  intro q k
  unfold cpV
  split
  · next hh =>
    obtain ⟨rfl, -, -⟩ := hh
    have := (h i (sp + (k - dp))).1
    rw [hi] at this
    rw [hj, hp]
    exact ⟨this, fun hh => by cases hh⟩
  · exact h q k
theorem isPl_Wk {d : Nat} (h : d < 7) : isPl (110 + 2 * d) := by
  have : d = 0 ∨ d = 1 ∨ d = 2 ∨ d = 3 ∨ d = 4 ∨ d = 5 ∨ d = 6 := by omega
  rcases this with rfl | rfl | rfl | rfl | rfl | rfl | rfl <;> exact ⟨by decide, rfl, rfl⟩
def jDiv (a b : Int) : Int := (Int64.ofInt a / Int64.ofInt b).toInt
def jRem (a b : Int) : Int := (Int64.ofInt a - Int64.ofInt a / Int64.ofInt b * Int64.ofInt b).toInt
def iL (a : Int) : Int := (Int64.ofInt a).toInt32.toInt
def iC (a : Int) : Int := ((Int32.ofInt a).toUInt32 % 65536).toInt32.toInt
theorem iC_r (a : Int) : 0 ≤ iC a ∧ iC a ≤ 65535 := by
  unfold iC
  generalize (Int32.ofInt a).toUInt32 = v
  have h : (v % 65536).toNat < 65536 := by
    rw [UInt32.toNat_mod]
    exact Nat.mod_lt _ (by decide)
  have : (v % 65536).toInt32.toInt = ((v % 65536).toNat : Int) := by
    show (v % 65536).toBitVec.toInt = _
    rw [BitVec.toInt_eq_toNat_cond]
    have : (v % 65536).toBitVec.toNat = (v % 65536).toNat := rfl
    rw [if_pos (by omega), this]
  omega
section XSF
variable {p : Program} {l : Launch} {e : Env} {R : Room} {s : State} {m : MethodId} {args : Array Value} {below : List Frame} {meth : Method} {c : Code} {cells slots : Nat} {Q : State → Prop}
variable {D : va_G} {A : Nat → Prop} {H0 : Heap} {nL : Nat} {ws : va_W} {pc : Nat} {lv : List (Nat × Value)} {st : List Value} {cc : ByteArray} {Ts : List Cond} {own : String} {TY : List (ClassId × FieldType)}
theorem x_wrapg {z : Int} (k : ∀ y : Int, R32 y → y = wr z → xW p l e R s m args below meth c D A H0 nL cells slots Q ws pc lv (vI y :: st)) : xW p l e R s m args below meth c D A H0 nL cells slots Q ws pc lv (vI z :: st) :=
  x_wrap (k _ (wr_r z) rfl)
theorem x_wrapl {z : Int} {i : Nat} {lv0 : List (Nat × Value)} (k : ∀ y : Int, R32 y → y = wr z → xW p l e R s m args below meth c D A H0 nL cells slots Q ws pc ((i, vI y) :: lv0) st) : xW p l e R s m args below meth c D A H0 nL cells slots Q ws pc ((i, vI z) :: lv0) st := by
  have k := k _ (wr_r z) rfl
  rw [vI, wr, xi_of] at k
  exact k
theorem x_wrapJ {z : Int} (k : ∀ y : Int, R64 y → xW p l e R s m args below meth c D A H0 nL cells slots Q ws pc lv (vJ y :: st)) : xW p l e R s m args below meth c D A H0 nL cells slots Q ws pc lv (vJ z :: st) := by
  have k := k (Int64.ofInt z).toInt (xj_r _)
  rw [vJ, xj_of] at k
  exact k
theorem x_ldiv (C : xC p s m args meth c D A H0 nL cc Ts own TY) {a b v : Int} (hv : jDiv a b = v) (hd : decode cc pc = .ok (.ldiv, 1)) (hb : R64 b) (hne : ¬ b = 0) (k : xW p l e R s m args below meth c D A H0 nL cells slots Q ws (pc + 1) lv (vJ v :: st)) : xW p l e R s m args below meth c D A H0 nL cells slots Q ws pc lv (vJ b :: vJ a :: st) :=
  fun H locs la hP hD hS hl => lv_ldiv C.1 C.2.1 hd (fun h => hne ((xj_eq hb (by decide)).mp h)) (by have k := k H locs la hP hD hS hl; simp only [vJ, ← hv, jDiv, xj_of] at k; exact k)
theorem x_lrem (C : xC p s m args meth c D A H0 nL cc Ts own TY) {a b v : Int} (hv : jRem a b = v) (hd : decode cc pc = .ok (.lrem, 1)) (hb : R64 b) (hne : ¬ b = 0) (k : xW p l e R s m args below meth c D A H0 nL cells slots Q ws (pc + 1) lv (vJ v :: st)) : xW p l e R s m args below meth c D A H0 nL cells slots Q ws pc lv (vJ b :: vJ a :: st) :=
  fun H locs la hP hD hS hl => lv_lrem C.1 C.2.1 hd (fun h => hne ((xj_eq hb (by decide)).mp h)) (by have k := k H locs la hP hD hS hl; simp only [vJ, ← hv, jRem, xj_of] at k; exact k)
theorem x_l2i (C : xC p s m args meth c D A H0 nL cc Ts own TY) {a : Int} (hd : decode cc pc = .ok (.l2i, 1)) (k : xW p l e R s m args below meth c D A H0 nL cells slots Q ws (pc + 1) lv (vI (iL a) :: st)) : xW p l e R s m args below meth c D A H0 nL cells slots Q ws pc lv (vJ a :: st) :=
  fun H locs la hP hD hS hl => lv_l2i C.1 C.2.1 hd (v := Int32.ofInt (iL a)) (by rw [iL, xi_of]) (k H locs la hP hD hS hl)
theorem x_i2c (C : xC p s m args meth c D A H0 nL cc Ts own TY) {a : Int} (hd : decode cc pc = .ok (.i2c, 1)) (k : xW p l e R s m args below meth c D A H0 nL cells slots Q ws (pc + 1) lv (vI (iC a) :: st)) : xW p l e R s m args below meth c D A H0 nL cells slots Q ws pc lv (vI a :: st) :=
  fun H locs la hP hD hS hl => lv_i2c C.1 C.2.1 hd (v := Int32.ofInt (iC a)) (by rw [iC, xi_of]) (k H locs la hP hD hS hl)
theorem x_dup2 (C : xC p s m args meth c D A H0 nL cc Ts own TY) {v w : Value} (hd : decode cc pc = .ok (.dup2, 1)) (hv : v.category = 1) (hw : w.category = 1) (k : xW p l e R s m args below meth c D A H0 nL cells slots Q ws (pc + 1) lv (v :: w :: v :: w :: st)) : xW p l e R s m args below meth c D A H0 nL cells slots Q ws pc lv (v :: w :: st) :=
  fun H locs la hP hD hS hl => lv_dup2_11 C.1 C.2.1 hd hv hw (k H locs la hP hD hS hl)
theorem x_pop2 (C : xC p s m args meth c D A H0 nL cc Ts own TY) {v : Value} (hd : decode cc pc = .ok (.pop2, 1)) (hv : v.category = 2) (k : xW p l e R s m args below meth c D A H0 nL cells slots Q ws (pc + 1) lv st) : xW p l e R s m args below meth c D A H0 nL cells slots Q ws pc lv (v :: st) :=
  fun H locs la hP hD hS hl => lv_pop2_2 C.1 C.2.1 hd hv (k H locs la hP hD hS hl)
theorem x_join {σ : Type} (I : σ → Prop) (wsf : σ → va_W) (lvf : σ → List (Nat × Value)) (stf : σ → List Value) (tgt : Nat) (kj : ∀ x : σ, I x → xW p l e R s m args below meth c D A H0 nL cells slots Q (wsf x) tgt (lvf x) (stf x)) (kk : (∀ x : σ, I x → xW p l e R s m args below meth c D A H0 nL cells slots Q (wsf x) tgt (lvf x) (stf x)) → xW p l e R s m args below meth c D A H0 nL cells slots Q ws pc lv st) : xW p l e R s m args below meth c D A H0 nL cells slots Q ws pc lv st := kk kj
variable {N : Nat} {dsc : Nat → xD} {cy : Nat → ClassId} {ad : Nat → Nat} {V J : Nat → Nat → Int} {Rr : Nat → Nat → Nat}
theorem x_gV (k : ∀ W : Nat → Nat → Int, W = V → xW p l e R s m args below meth c D A H0 nL cells slots Q (xw N dsc cy ad W J Rr) pc lv st) : xW p l e R s m args below meth c D A H0 nL cells slots Q (xw N dsc cy ad V J Rr) pc lv st := k _ rfl
theorem x_gJ (k : ∀ W : Nat → Nat → Int, W = J → xW p l e R s m args below meth c D A H0 nL cells slots Q (xw N dsc cy ad V W Rr) pc lv st) : xW p l e R s m args below meth c D A H0 nL cells slots Q (xw N dsc cy ad V J Rr) pc lv st := k _ rfl
theorem x_gR (k : ∀ W : Nat → Nat → Nat, W = Rr → xW p l e R s m args below meth c D A H0 nL cells slots Q (xw N dsc cy ad V J W) pc lv st) : xW p l e R s m args below meth c D A H0 nL cells slots Q (xw N dsc cy ad V J Rr) pc lv st := k _ rfl
end XSF
