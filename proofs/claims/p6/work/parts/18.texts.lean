/-- as XI; the texts' numbers of clauses are watched too -/
def prT (i k : Nat) : Bool := prX i k || ((i == 61 || i == 73 || i == 78 || i == 83 || i == 88 || i == 93) && k == 5)
def TI (G V : Nat → Nat → Int) : Prop := ∀ i k : Nat, ((rgX i k).1 ≤ V i k ∧ V i k ≤ (rgX i k).2) ∧ (prT i k = true → V i k = G i k)
theorem TI.toX {G V : Nat → Nat → Int} (h : TI G V) : XI G V := fun i k => ⟨(h i k).1, fun hh => (h i k).2 (by rw [prT, hh]; rfl)⟩
theorem TI.rd {G V : Nat → Nat → Int} (h : TI G V) (i k : Nat) {x y : Int} (hr : rgX i k = (x, y)) : ∃ z : Int, V i k = z ∧ x ≤ z ∧ z ≤ y := h.toX.rd i k hr
theorem TI.up {G V W : Nat → Nat → Int} (h : TI G V) {i k : Nat} {a : Int} (hW : W = up2 V i k a) {x y : Int} (hr : rgX i k = (x, y)) (ha : x ≤ a ∧ a ≤ y) (hp : prT i k = false) : TI G W := by
  subst hW
  intro j q
  by_cases e : j = i ∧ q = k
  · obtain ⟨rfl, rfl⟩ := e
    rw [up2_s, hr]
    exact ⟨ha, fun hh => by rw [hp] at hh; cases hh⟩
  · rw [up2_n _ _ (by omega)]
    exact h j q
theorem XI.toT {G V : Nat → Nat → Int} (h : XI G V) : TI V V := fun i k => ⟨(h i k).1, fun _ => rfl⟩
theorem TI.back {G V W : Nat → Nat → Int} (h : XI G V) (g : TI V W) : XI G W := fun i k => ⟨(g i k).1, fun hh => ((g i k).2 (by rw [prT, hh]; rfl)).trans ((h i k).2 hh)⟩
theorem TI.self {G V : Nat → Nat → Int} (h : TI G V) : TI V V := fun i k => ⟨(h i k).1, fun _ => rfl⟩
theorem TI.keep {V W : Nat → Nat → Int} (h : TI V W) {t : Nat} (ht : isTx t) : W t 5 = V t 5 := (h t 5).2 (by rcases ht with rfl | rfl | rfl | rfl | rfl | rfl <;> rfl)
theorem prT_T {t : Nat} (h : isTx t) {k : Nat} (h5 : (k == 5) = false) : prT t k = false := by
  rw [prT, pr_T h, h5]
  simp
theorem prT_T1 {t : Nat} (h : isTx t) (k : Nat) : prT (t + 1) k = false := by
  rcases h with rfl | rfl | rfl | rfl | rfl | rfl <;> rfl
theorem pr_39 {c q : Nat} (h : 39 + 3 + 2 * q = c) (hq : q < 4) (k : Nat) : prX c k = false := by
  have : q = 0 ∨ q = 1 ∨ q = 2 ∨ q = 3 := by omega
  subst h
  rcases this with rfl | rfl | rfl | rfl <;> rfl
theorem pr_Wk {c d : Nat} (h : 110 + 2 * d = c) (hd : d < 7) (k : Nat) : prX c k = false := by
  have : d = 0 ∨ d = 1 ∨ d = 2 ∨ d = 3 ∨ d = 4 ∨ d = 5 ∨ d = 6 := by omega
  subst h
  rcases this with rfl | rfl | rfl | rfl | rfl | rfl | rfl <;> rfl
theorem iC_nar {a : Int} (h : 0 ≤ a ∧ a ≤ 65535) : vp_nar .char (Int32.ofInt a) = Int32.ofInt a := by
  have e1 : (Int32.ofInt a).toBitVec.toNat = a.toNat := by
    have h3 : (Int32.ofInt a).toBitVec.toInt = a := xi_toInt (a := a) ⟨by omega, by omega⟩
    rw [BitVec.toInt_eq_toNat_cond] at h3
    have h4 := (Int32.ofInt a).toBitVec.isLt
    split at h3 <;> omega
  rw [vp_nar_char]
  refine Int32.toBitVec_inj.mp (BitVec.eq_of_toNat_eq ?_)
  show (Int32.ofInt a).toUInt32.toUInt16.toUInt32.toNat = _
  rw [UInt16.toNat_toUInt32, UInt32.toNat_toUInt16]
  show (Int32.ofInt a).toBitVec.toNat % 65536 = _
  rw [e1]
  omega
theorem rf_w {k a : Nat} (hk : k < 2) (h : isW a) : rfX 98 k a := by
  show (k < 2 → isW a) ∧ (k = 2 ∨ k = 3 → isSt a)
  exact ⟨fun _ => h, fun h => by omega⟩
theorem rf_s {k a : Nat} (hk : k = 2 ∨ k = 3) (h : isSt a) : rfX 98 k a := by
  show (k < 2 → isW a) ∧ (k = 2 ∨ k = 3 → isSt a)
  exact ⟨fun h => by omega, fun _ => h⟩
theorem rf_law {a : Nat} (h : isTx a) : rfX 60 0 a := fun _ => h
theorem rf_into {a : Nat} (h : isTx a) : rfX 72 1 a := fun _ => h
theorem rf_rule {k a : Nat} (h : isTx a) : rfX 66 k a := fun _ => h
