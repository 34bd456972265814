-- the reference: what a method keeps of the three rows
abbrev KI (S : Nat → Nat → Prop) (K G V : Nat → Nat → Int) : Prop := MI G V ∧ ∀ i k : Nat, S i k → V i k = K i k
abbrev sA (i _ : Nat) : Prop := i = 1 ∨ i = 2 ∨ i = 3
abbrev sW (i k : Nat) : Prop := i = 2 ∨ i = 3 ∨ (i = 1 ∧ 8 ≤ k ∧ k < 20)
abbrev sD (i _ : Nat) : Prop := i = 2 ∨ i = 3
abbrev AI (K G V : Nat → Nat → Int) : Prop := KI sA K G V
abbrev WI (K G V : Nat → Nat → Int) : Prop := KI sW K G V
abbrev DI (K G V : Nat → Nat → Int) : Prop := KI sD K G V
section XKI
variable {S S2 : Nat → Nat → Prop} {K G V W : Nat → Nat → Int} {i k : Nat} {a x y : Int}
theorem KI.rd (h : KI S K G V) (i k : Nat) {x y : Int} (hr : rgM i k = (x, y)) : ∃ z : Int, V i k = z ∧ x ≤ z ∧ z ≤ y := h.1.rd i k hr
theorem KI.vr (h : KI S K G V) : VR V := h.1.vr
theorem KI.self (h : MI G V) : KI S V G V := ⟨h, fun _ _ _ => rfl⟩
theorem KI.back (h : KI S2 V G W) (h0 : KI S K G V) (sub : ∀ i k, S i k → S2 i k) : KI S K G W := ⟨h.1, fun i k hs => (h.2 i k (sub i k hs)).trans (h0.2 i k hs)⟩
theorem sub_AA : ∀ i k, sA i k → sA i k := fun _ _ h => h
theorem sub_WA : ∀ i k, sW i k → sA i k := fun i k h => by unfold sW at h; unfold sA; omega
theorem sub_DA : ∀ i k, sD i k → sA i k := fun i k h => by unfold sD at h; unfold sA; omega
theorem sub_DD : ∀ i k, sD i k → sD i k := fun _ _ h => h
theorem KI.up (h : KI S K G V) (hW : W = up2 V i k a) (hr : rgM i k = (x, y)) (ha : x ≤ a ∧ a ≤ y) (hp : prM i k = false) (hf : mFree i k) (hs : ∀ j q, S j q → j ≠ i ∨ q ≠ k) : KI S K G W := ⟨h.1.up hW hr ha hp hf, fun j q hj => by rw [hW, up2_n _ _ (hs j q hj)]; exact h.2 j q hj⟩
theorem AI.up (h : AI K G V) (hW : W = up2 V i k a) {x y : Int} (hr : rgM i k = (x, y)) (ha : x ≤ a ∧ a ≤ y) (hp : prM i k = false) (hf : (i ≠ 1 ∧ i ≠ 2 ∧ i ≠ 3) ∨ False) : AI K G W :=
  KI.up h hW hr ha hp (Or.inl (hf.resolve_right id)) (fun j q hj => by have hf := hf.resolve_right id; unfold sA at hj; omega)
theorem WI.up (h : WI K G V) (hW : W = up2 V i k a) {x y : Int} (hr : rgM i k = (x, y)) (ha : x ≤ a ∧ a ≤ y) (hp : prM i k = false) (hf : (i ≠ 1 ∧ i ≠ 2 ∧ i ≠ 3) ∨ (i = 1 ∧ (k < 8 ∨ 20 ≤ k ∧ k ≠ 77))) : WI K G W :=
  KI.up h hW hr ha hp (by unfold mFree; omega) (fun j q hj => by unfold sW at hj; omega)
theorem DI.up (h : DI K G V) (hW : W = up2 V i k a) {x y : Int} (hr : rgM i k = (x, y)) (ha : x ≤ a ∧ a ≤ y) (hp : prM i k = false) (hf : (i ≠ 1 ∧ i ≠ 2 ∧ i ≠ 3) ∨ (i = 1 ∧ (k < 12 ∨ 20 ≤ k ∧ k ≠ 77))) : DI K G W :=
  KI.up h hW hr ha hp (by unfold mFree; omega) (fun j q hj => by unfold sD at hj; omega)
/-- as DI, while the dead's word of plant r is not looked at -/
abbrev DX (r : Nat) (K G V : Nat → Nat → Int) : Prop := MIx r G V ∧ ∀ i k : Nat, sD i k → V i k = K i k
theorem DX.rd {r : Nat} (h : DX r K G V) (i k : Nat) {x y : Int} (hr : rgM i k = (x, y)) : ∃ z : Int, V i k = z ∧ x ≤ z ∧ z ≤ y := h.1.rd i k hr
theorem DX.of {r : Nat} (h : DI K G V) : DX r K G V := ⟨MIx.of h.1, h.2⟩
theorem DX.up {r : Nat} (h : DX r K G V) (hW : W = up2 V i k a) {x y : Int} (hr : rgM i k = (x, y)) (ha : x ≤ a ∧ a ≤ y) (hp : prM i k = false) (hf : (i ≠ 1 ∧ i ≠ 2 ∧ i ≠ 3) ∨ (i = 1 ∧ (k < 12 ∨ k = 12 + r ∨ k = 16 + r ∨ 20 ≤ k ∧ k ≠ 77) ∧ r < 4)) : DX r K G W :=
  ⟨h.1.up hW hr ha hp (by omega), fun j q hj => by unfold sD at hj; rw [hW, up2_n _ _ (by omega)]; exact h.2 j q hj⟩
theorem DX.back {r : Nat} (h : DX r K G V) (hr : V 1 (12 + r) ≤ 8 ∧ V 1 (16 + r) ≤ 8) : DI K G V := ⟨h.1.back (Or.inr hr), h.2⟩
theorem DX.die {r : Nat} (h : DX r K G V) (hr : r < 4) {z : Int} (hz : V 1 77 = z) (hW : W = up2 V 1 77 (iOr z (iShl 1 r))) : DI K G W :=
  ⟨h.1.die hr hz hW, fun j q hj => by unfold sD at hj; rw [hW, up2_n _ _ (by omega)]; exact h.2 j q hj⟩
end XKI
/-- what the texts' tables say holds of the store too -/
theorem MI.g {G V : Nat → Nat → Int} (h : MI G V) {i k : Nat} {z : Int} (hz : V i k = z) (hp : prM i k = true) : G i k = z := ((h.1 i k).2 hp).symm.trans hz
theorem MIx.vr {r : Nat} {G V : Nat → Nat → Int} (h : MIx r G V) : VR V := fun i k => ⟨Int.le_trans (rgM_s i k).1 (h.1 i k).1.1, Int.le_trans (h.1 i k).1.2 (rgM_s i k).2⟩
def tp (k : Int) : Int := 10 ^ k.toNat
theorem tp_0 : tp 0 = 1 := rfl
theorem tp_s {k : Int} (h : 0 ≤ k) : tp (k + 1) = 10 * tp k := by
  rw [tp, tp, show (k + 1).toNat = k.toNat + 1 by omega, Int.pow_succ, Int.mul_comm]
theorem tp_b {k : Int} (h : 0 ≤ k ∧ k ≤ 18) : 1 ≤ tp k ∧ tp k ≤ 1000000000000000000 := by
  have e : ∀ n : Nat, n < 19 → (1 : Int) ≤ 10 ^ n ∧ (10 : Int) ^ n ≤ 1000000000000000000 := by decide
  exact e k.toNat (by omega)
theorem cpN_at {V : Nat → Nat → Int} {a b n k : Nat} (h : k < n) : cpN V a b n b k = V a k := by simp [cpN, h]
theorem mul18 {x y z : Int} (hx : 1 ≤ x) (hy : 0 ≤ y ∧ y ≤ z) (h : x * (z + 1) ≤ 18) : 1 ≤ x * (y + 1) ∧ x * (y + 1) ≤ 18 := by
  have h1 : x * (y + 1) ≤ x * (z + 1) := Int.mul_le_mul_of_nonneg_left (by omega) (by omega)
  have h2 : 1 * 1 ≤ x * (y + 1) := Int.mul_le_mul hx (by omega) (by omega) (by omega)
  omega
theorem hrM_b (V : Nat → Nat → Int) : -1 ≤ hrM V ∧ hrM V ≤ 255 := by
  unfold hrM
  split
  · have := iAnd_leB (V 4 (V 0 5).toNat) (q := 255) (B := 255) (by omega); omega
  · omega
theorem hrM_lt {V : Nat → Nat → Int} (h : 0 ≤ hrM V) : V 0 5 < V 0 6 := by
  unfold hrM at h
  split at h
  · assumption
  · omega
abbrev PX (r : Nat) (G V : Nat → Nat → Int) : Prop := MIx r G V
theorem PX.up {r : Nat} {G V W : Nat → Nat → Int} {i k : Nat} {a : Int} (h : PX r G V) (hW : W = up2 V i k a) {x y : Int} (hr : rgM i k = (x, y)) (ha : x ≤ a ∧ a ≤ y) (hp : prM i k = false) (hf : (i ≠ 1 ∧ i ≠ 2 ∧ i ≠ 3) ∨ (i = 1 ∧ (k < 12 ∨ k = 12 + r ∨ k = 16 + r ∨ 20 ≤ k ∧ k ≠ 77) ∧ r < 4)) : PX r G W := MIx.up h hW hr ha hp (by omega)
