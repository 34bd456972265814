-- the reference: ranges, what is watched, the dead
def rgN (k : Nat) : Int × Int := if k < 8 then (0, 24) else if k < 20 then (0, 9) else if k < 60 then fullI else if k < 68 then (0, 3) else fullI
def rgF : Nat → Int × Int
  | 4 => (0, 220)
  | 5 => (0, 220)
  | 6 => (0, 220)
  | 10 => (0, 220)
  | 11 => (0, 220)
  | 12 => (0, 14)
  | 31 => (-1, 9)
  | 33 => (0, 3)
  | 46 => (0, 84)
  | 47 => (0, 12)
  | 53 => (0, 1)
  | _ => fullI
def rgM (i k : Nat) : Int × Int :=
  if i = 0 then rgF k
  else if i < 4 then rgN k
  else if i = 4 then (-128, 127)
  else if i = 12 then (0, 14)
  else if i = 20 then (0, 7)
  else if i = 27 then (0, 24)
  else if i = 30 then (-1, 7)
  else fullI
theorem rgN_s (k : Nat) : subI (rgN k) := by
  have f : subI fullI := by decide
  exact ite_s (by decide) (ite_s (by decide) (ite_s f (ite_s (by decide) f)))
theorem rgF_s (k : Nat) : subI (rgF k) := by unfold rgF; split <;> decide
theorem rgM_s (i k : Nat) : subI (rgM i k) := by
  have f : subI fullI := by decide
  exact ite_s (rgF_s k) (ite_s (rgN_s k) (ite_s (by decide) (ite_s (by decide) (ite_s (by decide) (ite_s (by decide) (ite_s (by decide) f))))))
/-- watched: the rules and the law as read, and whether something is kept -/
def prM (i k : Nat) : Bool := (i == 0 && k == 53) || (11 ≤ i && i ≤ 16)
def dOK (f : Nat → Int) : Prop := ∀ q : Nat, q < 4 → iAnd (iShr (f 77) q) 1 = 1 ∨ (f (12 + q) ≤ 8 ∧ f (16 + q) ≤ 8)
def MI (G V : Nat → Nat → Int) : Prop := (∀ i k : Nat, ((rgM i k).1 ≤ V i k ∧ V i k ≤ (rgM i k).2) ∧ (prM i k = true → V i k = G i k)) ∧ dOK (V 1) ∧ dOK (V 2) ∧ dOK (V 3)
theorem MI.rd {G V : Nat → Nat → Int} (h : MI G V) (i k : Nat) {x y : Int} (hr : rgM i k = (x, y)) : ∃ z : Int, V i k = z ∧ x ≤ z ∧ z ≤ y := by
  have := (h.1 i k).1
  rw [hr] at this
  exact ⟨_, rfl, this⟩
/-- places that the dead's word does not look at -/
abbrev mFree (i k : Nat) : Prop := (i ≠ 1 ∧ i ≠ 2 ∧ i ≠ 3) ∨ (k < 12 ∨ 20 ≤ k ∧ k ≠ 77)
theorem dOK.up {f : Nat → Int} {k : Nat} {a : Int} (h : dOK f) (hk : k < 12 ∨ 20 ≤ k ∧ k ≠ 77) : dOK (up1 f k a) := by
  intro q hq
  rw [up1_n _ _ (by omega), up1_n _ _ (by omega), up1_n _ _ (by omega)]
  exact h q hq
theorem MI.up {G V W : Nat → Nat → Int} (h : MI G V) {i k : Nat} {a : Int} (hW : W = up2 V i k a) {x y : Int} (hr : rgM i k = (x, y)) (ha : x ≤ a ∧ a ≤ y) (hp : prM i k = false) (hf : mFree i k) : MI G W := by
  subst hW
  have dd : ∀ j : Nat, (j = 1 ∨ j = 2 ∨ j = 3) → dOK (V j) → dOK (up2 V i k a j) := fun j hj hd => by
    by_cases e : j = i
    · subst e
      have e1 : up2 V j k a j = up1 (V j) k a := by simp [up2]
      rw [e1]
      exact hd.up (by omega)
    · rw [up2_c _ _ e]; exact hd
  refine ⟨fun j q => ?_, dd 1 (by omega) h.2.1, dd 2 (by omega) h.2.2.1, dd 3 (by omega) h.2.2.2⟩
  by_cases e : j = i ∧ q = k
  · obtain ⟨rfl, rfl⟩ := e
    rw [up2_s, hr]
    exact ⟨ha, fun hh => by rw [hp] at hh; cases hh⟩
  · rw [up2_n _ _ (by omega)]
    exact h.1 j q
def MR (_ : Nat → Nat → Nat) : Prop := True
def MS (G : Nat → Nat → Int) (u : xS) : Prop := MI G u.1 ∧ VJ u.2.1 ∧ MR u.2.2
theorem rgN_8 {i k : Nat} (hi : i = 1 ∨ i = 2 ∨ i = 3) (h : k < 8) : rgM i k = (0, 24) := by
  rcases hi with rfl | rfl | rfl <;> (show rgN k = _; rw [rgN, if_pos h])
theorem rgN_20 {i k : Nat} (hi : i = 1 ∨ i = 2 ∨ i = 3) (h : 8 ≤ k ∧ k < 20) : rgM i k = (0, 9) := by
  rcases hi with rfl | rfl | rfl <;> (show rgN k = _; rw [rgN, if_neg (by omega), if_pos (by omega)])
theorem rgN_60 {i k : Nat} (hi : i = 1 ∨ i = 2 ∨ i = 3) (h : 20 ≤ k ∧ k < 60) : rgM i k = (-2147483648, 2147483647) := by
  rcases hi with rfl | rfl | rfl <;> (show rgN k = _; rw [rgN, if_neg (by omega), if_neg (by omega), if_pos (by omega)])
theorem rgN_68 {i k : Nat} (hi : i = 1 ∨ i = 2 ∨ i = 3) (h : 60 ≤ k ∧ k < 68) : rgM i k = (0, 3) := by
  rcases hi with rfl | rfl | rfl <;> (show rgN k = _; rw [rgN, if_neg (by omega), if_neg (by omega), if_neg (by omega), if_pos (by omega)])
theorem rgN_81 {i k : Nat} (hi : i = 1 ∨ i = 2 ∨ i = 3) (h : 68 ≤ k) : rgM i k = (-2147483648, 2147483647) := by
  rcases hi with rfl | rfl | rfl <;> (show rgN k = _; rw [rgN, if_neg (by omega), if_neg (by omega), if_neg (by omega), if_neg (by omega)])
theorem prM_r {i k : Nat} (hi : i = 1 ∨ i = 2 ∨ i = 3) : prM i k = false := by rcases hi with rfl | rfl | rfl <;> rfl
theorem MI.al {G V : Nat → Nat → Int} (h : MI G V) {x z : Int} (hx : 0 ≤ x ∧ x ≤ 3) (hz : V 1 77 = z) (hn : ¬ iAnd (iShr z x) 1 = 1) : V 1 (12 + x.toNat) ≤ 8 ∧ V 1 (16 + x.toNat) ≤ 8 := by
  have := h.2.1 x.toNat (by omega)
  rw [hz, Int.toNat_of_nonneg hx.1] at this
  rcases this with h1 | h1
  · exact absurd h1 hn
  · exact h1
/-- bit q of a whole number of 32 bits -/
def hasb (a : Int) (q : Nat) : Bool := (Int32.ofInt a).toBitVec.getLsbD q
theorem has_iff (a : Int) {q : Nat} (hq : q < 4) : iAnd (iShr a q) 1 = 1 ↔ hasb a q = true := by
  have key : ∀ (x : BitVec 32) (r : Nat), r < 32 → ((x.sshiftRight r) &&& 1#32) = if x.getLsbD r then 1#32 else 0#32 := by
    intro x r hr
    apply BitVec.eq_of_getLsbD_eq
    intro i hi
    rw [BitVec.getLsbD_and, BitVec.getLsbD_sshiftRight]
    by_cases h0 : i = 0
    · subst h0
      cases hx : x.getLsbD r <;> simp [hx, hr]
    · have : (1#32).getLsbD i = false := by
        rw [BitVec.getLsbD_one]
        simp [h0]
      rw [this]
      cases hx : x.getLsbD r <;> simp [h0]
  have e1 : (Int32.ofInt a >>> (Int32.ofInt q &&& 31)).toBitVec = (Int32.ofInt a).toBitVec.sshiftRight q := by
    have h4 : q = 0 ∨ q = 1 ∨ q = 2 ∨ q = 3 := by omega
    rw [Int32.toBitVec_shiftRight]
    rcases h4 with rfl | rfl | rfl | rfl <;> rfl
  have e2 : iAnd (iShr a q) 1 = ((Int32.ofInt a).toBitVec.sshiftRight q &&& 1#32).toInt := by
    rw [iAnd, iShr, xi_of]
    show (Int32.ofInt a >>> (Int32.ofInt q &&& 31) &&& Int32.ofInt 1).toBitVec.toInt = _
    rw [Int32.toBitVec_and, e1]
    rfl
  rw [e2, key _ q (by omega), hasb]
  cases hx : (Int32.ofInt a).toBitVec.getLsbD q
  · simp
  · simp
theorem bit_or {a : Int} {r q : Nat} (hr : r < 4) (hq : q < 4) : hasb (iOr a (iShl 1 r)) q = (hasb a q || decide (q = r)) := by
  rw [hasb, hasb, iOr, xi_of, Int32.toBitVec_or, BitVec.getLsbD_or, iShl, xi_of]
  congr 1
  have h4 : r = 0 ∨ r = 1 ∨ r = 2 ∨ r = 3 := by omega
  have h5 : q = 0 ∨ q = 1 ∨ q = 2 ∨ q = 3 := by omega
  rcases h4 with rfl | rfl | rfl | rfl <;> rcases h5 with rfl | rfl | rfl | rfl <;> decide
theorem bit_clr {a : Int} {r q : Nat} (hr : r < 4) (hq : q < 4) : hasb (iAnd a (iXor (iShl 1 r) (-1))) q = (hasb a q && decide (q ≠ r)) := by
  rw [hasb, hasb, iAnd, xi_of, Int32.toBitVec_and, BitVec.getLsbD_and, iXor, xi_of, iShl, xi_of]
  congr 1
  have h4 : r = 0 ∨ r = 1 ∨ r = 2 ∨ r = 3 := by omega
  have h5 : q = 0 ∨ q = 1 ∨ q = 2 ∨ q = 3 := by omega
  rcases h4 with rfl | rfl | rfl | rfl <;> rcases h5 with rfl | rfl | rfl | rfl <;> decide
/-- the dead: one more -/
theorem dOK.die {f : Nat → Int} {r : Nat} (hr : r < 4) (h : ∀ q : Nat, q < 4 → q ≠ r → iAnd (iShr (f 77) q) 1 = 1 ∨ (f (12 + q) ≤ 8 ∧ f (16 + q) ≤ 8)) : dOK (up1 f 77 (iOr (f 77) (iShl 1 r))) := by
  intro q hq
  rw [up1_s, up1_n _ _ (by omega), up1_n _ _ (by omega), has_iff _ hq, bit_or hr hq]
  by_cases e : q = r
  · left; simp [e]
  · rcases h q hq e with h1 | h1
    · left
      rw [(has_iff _ hq).mp h1]
      rfl
    · exact Or.inr h1
/-- the sign that is read next, or -1 -/
def hrM (V : Nat → Nat → Int) : Int := if V 0 5 < V 0 6 then iAnd (V 4 (V 0 5).toNat) 255 else -1
/-- as MI; the dead's word of plant r is not looked at -/
def MIx (r : Nat) (G V : Nat → Nat → Int) : Prop := (∀ i k : Nat, ((rgM i k).1 ≤ V i k ∧ V i k ≤ (rgM i k).2) ∧ (prM i k = true → V i k = G i k)) ∧ (∀ q : Nat, q < 4 → q ≠ r → iAnd (iShr (V 1 77) q) 1 = 1 ∨ (V 1 (12 + q) ≤ 8 ∧ V 1 (16 + q) ≤ 8)) ∧ dOK (V 2) ∧ dOK (V 3)
theorem MIx.rd {r : Nat} {G V : Nat → Nat → Int} (h : MIx r G V) (i k : Nat) {x y : Int} (hr : rgM i k = (x, y)) : ∃ z : Int, V i k = z ∧ x ≤ z ∧ z ≤ y := by
  have := (h.1 i k).1
  rw [hr] at this
  exact ⟨_, rfl, this⟩
theorem MIx.of {r : Nat} {G V : Nat → Nat → Int} (h : MI G V) : MIx r G V := ⟨h.1, fun q hq _ => h.2.1 q hq, h.2.2⟩
/-- any place of the row but the dead's, and those of other plants -/
theorem MIx.up {r : Nat} {G V W : Nat → Nat → Int} (h : MIx r G V) {i k : Nat} {a : Int} (hW : W = up2 V i k a) {x y : Int} (hr : rgM i k = (x, y)) (ha : x ≤ a ∧ a ≤ y) (hp : prM i k = false) (hf : (i ≠ 2 ∧ i ≠ 3) ∧ (i ≠ 1 ∨ (k < 12 ∨ k = 12 + r ∨ k = 16 + r ∨ 20 ≤ k ∧ k ≠ 77) ∧ r < 4)) : MIx r G W := by
  subst hW
  refine ⟨fun j q => ?_, fun q hq hn => ?_, ?_, ?_⟩
  · by_cases e : j = i ∧ q = k
    · obtain ⟨rfl, rfl⟩ := e
      rw [up2_s, hr]
      exact ⟨ha, fun hh => by rw [hp] at hh; cases hh⟩
    · rw [up2_n _ _ (by omega)]
      exact h.1 j q
  · rw [up2_n _ _ (by omega), up2_n _ _ (by omega), up2_n _ _ (by omega)]
    exact h.2.1 q hq hn
  · rw [up2_c _ _ (by omega)]; exact h.2.2.1
  · rw [up2_c _ _ (by omega)]; exact h.2.2.2
/-- the dead bit of plant r is written anew -/
theorem MIx.set {r : Nat} {G V W : Nat → Nat → Int} (h : MIx r G V) {a : Int} (hW : W = up2 V 1 77 a) (ha : R32 a) (hb : ∀ q : Nat, q < 4 → q ≠ r → hasb a q = hasb (V 1 77) q) : MIx r G W := by
  subst hW
  refine ⟨fun j q => ?_, fun q hq hn => ?_, ?_, ?_⟩
  · by_cases e : j = 1 ∧ q = 77
    · obtain ⟨rfl, rfl⟩ := e
      rw [up2_s]
      exact ⟨ha, fun hh => by cases hh⟩
    · rw [up2_n _ _ (by omega)]
      exact h.1 j q
  · rw [up2_s, up2_n _ _ (by omega), up2_n _ _ (by omega), has_iff _ hq, hb q hq hn, ← has_iff _ hq]
    exact h.2.1 q hq hn
  · rw [up2_c _ _ (by omega)]; exact h.2.2.1
  · rw [up2_c _ _ (by omega)]; exact h.2.2.2
theorem MIx.back {r : Nat} {G V : Nat → Nat → Int} (h : MIx r G V) (hr : iAnd (iShr (V 1 77) r) 1 = 1 ∨ (V 1 (12 + r) ≤ 8 ∧ V 1 (16 + r) ≤ 8)) : MI G V := by
  refine ⟨h.1, fun q hq => ?_, h.2.2⟩
  by_cases e : q = r
  · subst e; exact hr
  · exact h.2.1 q hq e
theorem MIx.clr {r : Nat} {G V W : Nat → Nat → Int} (h : MIx r G V) (hr : r < 4) {z : Int} (hz : V 1 77 = z) (hW : W = up2 V 1 77 (iAnd z (iXor (iShl 1 r) (-1)))) : MIx r G W :=
  h.set hW (xi_r _) (fun q hq hn => by rw [bit_clr hr hq, hz]; simp [hn])
theorem MIx.die {r : Nat} {G V W : Nat → Nat → Int} (h : MIx r G V) (hr : r < 4) {z : Int} (hz : V 1 77 = z) (hW : W = up2 V 1 77 (iOr z (iShl 1 r))) : MI G W := by
  refine MIx.back (h.set hW (xi_r _) (fun q hq hn => by rw [bit_or hr hq, hz]; simp [hn])) (Or.inl ?_)
  rw [has_iff _ hr, hW, up2_s, bit_or hr hr]
  simp
