-- how many come: odds multiplied out (own work)
def oA (p : Nat → Int) : Nat → Nat → Int
  | 0, k => if k = 0 then 1 else 0
  | i + 1, k => oA p i k * (10 - p i) + (if k = 0 then 0 else oA p i (k - 1) * p i)
theorem mb {x p B : Int} (hx : 0 ≤ x ∧ x ≤ B) (hp : 0 ≤ p ∧ p ≤ 10) : 0 ≤ x * p ∧ x * p ≤ 10 * B := by
  have h1 : x * p ≤ x * 10 := Int.mul_le_mul_of_nonneg_left hp.2 hx.1
  have h2 : 0 ≤ x * p := Int.mul_nonneg hx.1 hp.1
  omega
theorem oA_b (p : Nat → Int) : ∀ i : Nat, (∀ j : Nat, j < i → 0 ≤ p j ∧ p j ≤ 10) → ∀ k : Nat, (0 ≤ oA p i k ∧ oA p i k ≤ 10 ^ i) ∧ (i < k → oA p i k = 0) := by
  intro i
  induction i with
  | zero =>
    intro _ k
    by_cases h : k = 0
    · subst h; exact ⟨by simp [oA], fun hh => by omega⟩
    · have e : oA p 0 k = 0 := by simp [oA, h]
      rw [e]
      exact ⟨by decide, fun _ => rfl⟩
  | succ i ih =>
    intro hp k
    have ih := ih (fun j hj => hp j (by omega))
    have hpi := hp i (by omega)
    have e : oA p (i + 1) k = oA p i k * (10 - p i) + (if k = 0 then 0 else oA p i (k - 1) * p i) := rfl
    have hk := ih k
    rw [e, Int.pow_succ]
    generalize (10 : Int) ^ i = B at ih hk ⊢
    by_cases h0 : k = 0
    · rw [if_pos h0]
      have := mb hk.1 (p := 10 - p i) (by omega)
      exact ⟨by omega, fun hh => by omega⟩
    · rw [if_neg h0]
      have hk1 := ih (k - 1)
      refine ⟨?_, fun hh => by rw [hk.2 (by omega), hk1.2 (by omega)]; omega⟩
      generalize oA p i k = u at hk
      generalize oA p i (k - 1) = w at hk1
      rcases (show p i = 0 ∨ p i = 1 ∨ p i = 2 ∨ p i = 3 ∨ p i = 4 ∨ p i = 5 ∨ p i = 6 ∨ p i = 7 ∨ p i = 8 ∨ p i = 9 ∨ p i = 10 by omega) with q | q | q | q | q | q | q | q | q | q | q <;> rw [q] <;> omega
theorem wrJ_id {z : Int} (h : -9223372036854775808 ≤ z ∧ z ≤ 9223372036854775807) : wrJ z = z := xj_toInt h
theorem od_x {p : Int} (hp : 0 ≤ p ∧ p ≤ 10) {B : Int} (hB : 0 ≤ B ∧ B ≤ 1000000000000) {a : Nat → Int} (ha : ∀ k : Nat, 0 ≤ a k ∧ a k ≤ B) {ρ : Type} {F : (Nat → Nat → Int) → ρ → Prop} {r : ρ} {b : (Int → (Nat → Nat → Int) → ρ → Prop) → Int → (Nat → Nat → Int) → ρ → Prop}
    (hb : b = (fun rc806 (z805 : Int) (J806 : Nat → Nat → Int) => (if z805 < 0 then F J806 else jnk (fun (z840 : Int) => rdb (J806 128 z805.toNat) fun z842 => rdb (wrJ (z842 * (-p + 10))) fun z843 => rdb (wrJ (z840 * p)) fun z844 => rdb (wrJ (z843 + z844)) fun z845 => rdb (up2 J806 128 z805.toNat z845) fun J846 => rc806 (z805 - 1) J846) fun jf841 => (if z805 ≤ 0 then jf841 0 else rdb (J806 128 ((z805 - 1).toNat)) fun z848 => jf841 z848)))) :
    ∀ (n k : Nat) (J : Nat → Nat → Int), (∀ j : Nat, j < k → J 128 j = a j) → (∀ j : Nat, k ≤ j → j ≤ 12 → J 128 j = a j * (10 - p) + (if j = 0 then 0 else a (j - 1) * p)) → k ≤ 13 → lop2 n b ((k : Int) - 1) J r → ∃ J2 : Nat → Nat → Int, (∀ j : Nat, j ≤ 12 → J2 128 j = a j * (10 - p) + (if j = 0 then 0 else a (j - 1) * p)) ∧ F J2 r := by
  intro n
  induction n with
  | zero => intro k J _ _ _ h; exact False.elim h
  | succ n ih =>
    intro k J h1 h2 hk h
    rw [lop2_s hb] at h
    by_cases g : k = 0
    · rw [if_pos (by omega)] at h
      exact ⟨J, fun j hj => h2 j (by omega) hj, h⟩
    · rw [if_neg (by omega)] at h
      have h := jnk_d h
      obtain ⟨m, rfl⟩ : ∃ m : Nat, k = m + 1 := ⟨k - 1, by omega⟩
      have em : (((m + 1 : Nat) : Int) - 1).toNat = m := by omega
      have a0 := mb (ha m) (p := 10 - p) (by omega)
      have step : ∀ w : Int, w * p = (if m = 0 then 0 else a (m - 1) * p) → 0 ≤ w * p ∧ w * p ≤ 10 * B → (rdb (J 128 (((m + 1 : Nat) : Int) - 1).toNat) fun z842 => rdb (wrJ (z842 * (-p + 10))) fun z843 => rdb (wrJ (w * p)) fun z844 => rdb (wrJ (z843 + z844)) fun z845 => rdb (up2 J 128 (((m + 1 : Nat) : Int) - 1).toNat z845) fun J846 => lop2 n b (((m + 1 : Nat) : Int) - 1 - 1) J846) r → ∃ J2 : Nat → Nat → Int, (∀ j : Nat, j ≤ 12 → J2 128 j = a j * (10 - p) + (if j = 0 then 0 else a (j - 1) * p)) ∧ F J2 r := by
        intro w ew hw h
        rw [em] at h
        obtain ⟨z1, e1, h⟩ := rdb_g h
        obtain ⟨z2, e2, h⟩ := rdb_g h
        obtain ⟨z3, e3, h⟩ := rdb_g h
        obtain ⟨z4, e4, h⟩ := rdb_g h
        obtain ⟨J5, e5, h⟩ := rdb_g h
        rw [h1 m (by omega)] at e1
        rw [← e1, show -p + 10 = 10 - p by omega, wrJ_id (by omega)] at e2
        rw [wrJ_id (by omega)] at e3
        rw [wrJ_id (by omega)] at e4
        refine ih m J5 (fun j hj => ?_) (fun j hj hj2 => ?_) (by omega) (by rw [show (m : Int) - 1 = ((m + 1 : Nat) : Int) - 1 - 1 by omega]; exact h)
        · rw [← e5, up2_n _ _ (Or.inr (by omega))]; exact h1 j (by omega)
        · rw [← e5]
          by_cases e : j = m
          · rw [e, up2_s, ← e4, ← e2, ← e3, ew]
          · rw [up2_n _ _ (Or.inr e)]; exact h2 j (by omega) hj2
      by_cases g0 : ((m + 1 : Nat) : Int) - 1 ≤ 0
      · rw [if_pos g0] at h
        exact step 0 (by rw [if_pos (by omega), Int.zero_mul]) (by omega) h
      · rw [if_neg g0] at h
        obtain ⟨w, ew, h⟩ := rdb_g h
        rw [show (((m + 1 : Nat) : Int) - 1 - 1).toNat = m - 1 by omega, h1 (m - 1) (by omega)] at ew
        have aw := mb (ha (m - 1)) hp
        rw [ew] at aw
        exact step w (by rw [if_neg (by omega), ew]) aw h
theorem od_m {p : Int} (hp : 0 ≤ p ∧ p ≤ 10) {B : Int} (hB : 0 ≤ B ∧ B ≤ 1000000000000) {a : Nat → Int} (ha : ∀ k : Nat, 0 ≤ a k ∧ a k ≤ B) {ρ : Type} {F : (Nat → Nat → Int) → ρ → Prop} {r : ρ} {V : Nat → Nat → Int} {z3049 : Int} (hV : V 4 z3049.toNat = p) {b : (Int → (Nat → Nat → Int) → ρ → Prop) → Int → (Nat → Nat → Int) → ρ → Prop}
    (hb : b = (fun rc3198 (z3197 : Int) (J3198 : Nat → Nat → Int) => (if z3197 < 0 then F J3198 else rdb (J3198 29 z3197.toNat) fun z3237 => rdb (V 4 z3049.toNat) fun z3238 => fct (-128 ≤ z3238 ∧ z3238 ≤ 127) <| rdb (wrJ (z3237 * (-z3238 + 10))) fun z3239 => jnk (fun (z3242 : Int) => rdb (wrJ (z3239 + z3242)) fun z3244 => rdb (up2 J3198 29 z3197.toNat z3244) fun J3245 => rc3198 (z3197 - 1) J3245) fun jf3243 => (if z3197 ≤ 0 then jf3243 0 else rdb (J3198 29 ((z3197 - 1).toNat)) fun z3247 => rdb (wrJ (z3247 * z3238)) fun z3248 => jf3243 z3248)))) :
    ∀ (n k : Nat) (J : Nat → Nat → Int), (∀ j : Nat, j < k → J 29 j = a j) → (∀ j : Nat, k ≤ j → j ≤ 12 → J 29 j = a j * (10 - p) + (if j = 0 then 0 else a (j - 1) * p)) → k ≤ 13 → lop2 n b ((k : Int) - 1) J r → ∃ J2 : Nat → Nat → Int, (∀ j : Nat, j ≤ 12 → J2 29 j = a j * (10 - p) + (if j = 0 then 0 else a (j - 1) * p)) ∧ F J2 r := by
  intro n
  induction n with
  | zero => intro k J _ _ _ h; exact False.elim h
  | succ n ih =>
    intro k J h1 h2 hk h
    rw [lop2_s hb] at h
    by_cases g : k = 0
    · rw [if_pos (by omega)] at h
      exact ⟨J, fun j hj => h2 j (by omega) hj, h⟩
    · rw [if_neg (by omega)] at h
      obtain ⟨m, rfl⟩ : ∃ m : Nat, k = m + 1 := ⟨k - 1, by omega⟩
      have em : (((m + 1 : Nat) : Int) - 1).toNat = m := by omega
      have a0 := mb (ha m) (p := 10 - p) (by omega)
      rw [em] at h
      obtain ⟨z1, e1, h⟩ := rdb_g h
      obtain ⟨q, eq, -, h⟩ := rdb_g h
      rw [hV] at eq
      subst eq
      obtain ⟨z2, e2, h⟩ := rdb_g h
      have h := jnk_d h
      rw [h1 m (by omega)] at e1
      rw [← e1, show -p + 10 = 10 - p by omega, wrJ_id (by omega)] at e2
      have step : ∀ w : Int, w = (if m = 0 then 0 else a (m - 1) * p) → 0 ≤ w ∧ w ≤ 10 * B → (rdb (wrJ (z2 + w)) fun z3244 => rdb (up2 J 29 m z3244) fun J3245 => lop2 n b (((m + 1 : Nat) : Int) - 1 - 1) J3245) r → ∃ J2 : Nat → Nat → Int, (∀ j : Nat, j ≤ 12 → J2 29 j = a j * (10 - p) + (if j = 0 then 0 else a (j - 1) * p)) ∧ F J2 r := by
        intro w ew hw h
        obtain ⟨z4, e4, h⟩ := rdb_g h
        obtain ⟨J5, e5, h⟩ := rdb_g h
        rw [wrJ_id (by omega)] at e4
        refine ih m J5 (fun j hj => ?_) (fun j hj hj2 => ?_) (by omega) (by rw [show (m : Int) - 1 = ((m + 1 : Nat) : Int) - 1 - 1 by omega]; exact h)
        · rw [← e5, up2_n _ _ (Or.inr (by omega))]; exact h1 j (by omega)
        · rw [← e5]
          by_cases e : j = m
          · rw [e, up2_s, ← e4, ← e2, ← ew]
          · rw [up2_n _ _ (Or.inr e)]; exact h2 j (by omega) hj2
      by_cases g0 : ((m + 1 : Nat) : Int) - 1 ≤ 0
      · rw [if_pos g0] at h
        exact step 0 (by rw [if_pos (by omega)]) (by omega) h
      · rw [if_neg g0] at h
        obtain ⟨w, ew, h⟩ := rdb_g h
        obtain ⟨w2, ew2, h⟩ := rdb_g h
        rw [show (((m + 1 : Nat) : Int) - 1 - 1).toNat = m - 1 by omega, h1 (m - 1) (by omega)] at ew
        have aw := mb (ha (m - 1)) hp
        rw [ew] at aw
        rw [wrJ_id (by omega)] at ew2
        exact step w2 (by rw [if_neg (by omega), ew, ew2]) (by omega) h
