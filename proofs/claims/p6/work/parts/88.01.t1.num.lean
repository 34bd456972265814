-- numbers: wraps, bits (own work)
theorem wr_id {z : Int} (h : R32 z) : wr z = z := xi_toInt h
theorem wr_add (a b : Int) : wr (wr a + b) = wr (a + b) := by
  unfold wr
  rw [Int32.ofInt_add, Int32.ofInt_toInt, ← Int32.ofInt_add]
def bt (s l : Int) : Int := iAnd (iShr s l) 1
theorem bt_r (s l : Int) : 0 ≤ bt s l ∧ bt s l ≤ 1 := iAnd_leB _ (by decide)
def cnt (s : Int) : Int := bt s 0 + bt s 1 + bt s 2 + bt s 3 + bt s 4 + bt s 5 + bt s 6 + bt s 7
theorem bu_or : ∀ s : Nat, s < 256 → ∀ p : Nat, p < 8 → iOr (s : Int) (iShl 1 (p : Int)) = ((s ||| (1 <<< p) : Nat) : Int) := by decide +kernel
theorem bu_bt : ∀ s : Nat, s < 256 → ∀ p : Nat, p < 8 → bt (s : Int) (p : Int) = (((s >>> p) &&& 1 : Nat) : Int) := by decide +kernel
theorem bu_cl : ∀ s : Nat, s < 16 → ∀ p : Nat, p < 4 → iAnd (s : Int) (iXor (iShl 1 (p : Int)) (-1)) = ((s &&& (15 ^^^ (1 <<< p)) : Nat) : Int) := by decide +kernel
theorem bu_n : ∀ s : Nat, s < 256 → ∀ p : Nat, p < 8 → s ||| (1 <<< p) < 256 ∧ ∀ j : Nat, j < 8 → ((s ||| (1 <<< p)) >>> j) &&& 1 = if j = p then 1 else (s >>> j) &&& 1 := by decide +kernel
theorem bu_m : ∀ s : Nat, s < 16 → ∀ p : Nat, p < 4 → s ||| (1 <<< p) < 16 := by decide +kernel
theorem bu_c : ∀ s : Nat, s < 16 → ∀ p : Nat, p < 4 → s &&& (15 ^^^ (1 <<< p)) < 16 ∧ ∀ j : Nat, j < 4 → ((s &&& (15 ^^^ (1 <<< p))) >>> j) &&& 1 = if j = p then 0 else (s >>> j) &&& 1 := by decide +kernel
theorem bt_or {s p : Int} (hs : 0 ≤ s ∧ s < 256) (hp : 0 ≤ p ∧ p < 8) : (0 ≤ iOr s (iShl 1 p) ∧ iOr s (iShl 1 p) < 256) ∧ ∀ j : Int, 0 ≤ j ∧ j < 8 → bt (iOr s (iShl 1 p)) j = if j = p then 1 else bt s j := by
  obtain ⟨n, rfl⟩ : ∃ n : Nat, s = n := ⟨s.toNat, by omega⟩
  obtain ⟨q, rfl⟩ : ∃ q : Nat, p = q := ⟨p.toNat, by omega⟩
  have h := bu_n n (by omega) q (by omega)
  rw [bu_or n (by omega) q (by omega)]
  refine ⟨by omega, fun j hj => ?_⟩
  obtain ⟨i, rfl⟩ : ∃ i : Nat, j = i := ⟨j.toNat, by omega⟩
  rw [bu_bt _ h.1 i (by omega), h.2 i (by omega), bu_bt n (by omega) i (by omega)]
  by_cases e : i = q
  · rw [if_pos e, if_pos (by omega)]; rfl
  · rw [if_neg e, if_neg (by omega)]
theorem bt_or4 {s p : Int} (hs : 0 ≤ s ∧ s < 16) (hp : 0 ≤ p ∧ p < 4) : 0 ≤ iOr s (iShl 1 p) ∧ iOr s (iShl 1 p) < 16 := by
  obtain ⟨n, rfl⟩ : ∃ n : Nat, s = n := ⟨s.toNat, by omega⟩
  obtain ⟨q, rfl⟩ : ∃ q : Nat, p = q := ⟨p.toNat, by omega⟩
  have h := bu_m n (by omega) q (by omega)
  rw [bu_or n (by omega) q (by omega)]
  omega
theorem bt_cl {s p : Int} (hs : 0 ≤ s ∧ s < 16) (hp : 0 ≤ p ∧ p < 4) : (0 ≤ iAnd s (iXor (iShl 1 p) (-1)) ∧ iAnd s (iXor (iShl 1 p) (-1)) < 16) ∧ ∀ j : Int, 0 ≤ j ∧ j < 4 → bt (iAnd s (iXor (iShl 1 p) (-1))) j = if j = p then 0 else bt s j := by
  obtain ⟨n, rfl⟩ : ∃ n : Nat, s = n := ⟨s.toNat, by omega⟩
  obtain ⟨q, rfl⟩ : ∃ q : Nat, p = q := ⟨p.toNat, by omega⟩
  have h := bu_c n (by omega) q (by omega)
  rw [bu_cl n (by omega) q (by omega)]
  refine ⟨by omega, fun j hj => ?_⟩
  obtain ⟨i, rfl⟩ : ∃ i : Nat, j = i := ⟨j.toNat, by omega⟩
  rw [bu_bt _ (by omega) i (by omega), h.2 i (by omega), bu_bt n (by omega) i (by omega)]
  by_cases e : i = q
  · rw [if_pos e, if_pos (by omega)]; rfl
  · rw [if_neg e, if_neg (by omega)]
theorem cnt_or {s p : Int} (hs : 0 ≤ s ∧ s < 256) (hp : 0 ≤ p ∧ p < 8) : cnt (iOr s (iShl 1 p)) = cnt s + (1 - bt s p) := by
  have h := (bt_or hs hp).2
  have hc : p = 0 ∨ p = 1 ∨ p = 2 ∨ p = 3 ∨ p = 4 ∨ p = 5 ∨ p = 6 ∨ p = 7 := by omega
  unfold cnt
  rw [h 0 (by decide), h 1 (by decide), h 2 (by decide), h 3 (by decide), h 4 (by decide), h 5 (by decide), h 6 (by decide), h 7 (by decide)]
  rcases hc with rfl | rfl | rfl | rfl | rfl | rfl | rfl | rfl <;> simp <;> omega
theorem cnt_r (s : Int) : 0 ≤ cnt s ∧ cnt s ≤ 8 := by
  unfold cnt
  have h0 := bt_r s 0
  have h1 := bt_r s 1
  have h2 := bt_r s 2
  have h3 := bt_r s 3
  have h4 := bt_r s 4
  have h5 := bt_r s 5
  have h6 := bt_r s 6
  have h7 := bt_r s 7
  omega
