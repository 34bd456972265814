section
-- the reference: ranges, what is watched, the dead
def rgN (k : Nat) : Int × Int := if k < 8 then (0, 24) else if k < 20 then (0, 9) else if k < 60 then fullI else if k < 68 then (0, 3) else fullI
def rgF : Nat → Int × Int
  | 4 => (0, 220)
  | 5 => (0, 220)
  | 6 => (0, 220)
  | 10 => (0, 220)
  | 11 => (0, 220)
  | 12 => (0, 14)
  | 31 => (-1, 9)
  | 33 => (0, 3)
  | 46 => (0, 84)
  | 47 => (0, 12)
  | 53 => (0, 1)
  | _ => fullI
def rgM (i k : Nat) : Int × Int :=
  if i = 0 then rgF k
  else if i < 4 then rgN k
  else if i = 4 then (-128, 127)
  else if i = 12 then (0, 14)
  else if i = 20 then (0, 7)
  else if i = 27 then (0, 24)
  else if i = 30 then (-1, 7)
  else fullI
theorem rgN_s (k : Nat) : subI (rgN k) := by
  have f : subI fullI := by decide
  exact ite_s (by decide) (ite_s (by decide) (ite_s f (ite_s (by decide) f)))
theorem rgF_s (k : Nat) : subI (rgF k) := by unfold rgF; split <;> decide
theorem rgM_s (i k : Nat) : subI (rgM i k) := by
  have f : subI fullI := by decide
  exact ite_s (rgF_s k) (ite_s (rgN_s k) (ite_s (by decide) (ite_s (by decide) (ite_s (by decide) (ite_s (by decide) (ite_s (by decide) f))))))
/-- watched: the rules and the law as read, and whether something is kept -/
def prM (i k : Nat) : Bool := (i == 0 && k == 53) || (11 ≤ i && i ≤ 16)
def dOK (f : Nat → Int) : Prop := ∀ q : Nat, q < 4 → iAnd (iShr (f 77) q) 1 = 1 ∨ (f (12 + q) ≤ 8 ∧ f (16 + q) ≤ 8)
def MI (G V : Nat → Nat → Int) : Prop := (∀ i k : Nat, ((rgM i k).1 ≤ V i k ∧ V i k ≤ (rgM i k).2) ∧ (prM i k = true → V i k = G i k)) ∧ dOK (V 1) ∧ dOK (V 2) ∧ dOK (V 3)
theorem MI.rd {G V : Nat → Nat → Int} (h : MI G V) (i k : Nat) {x y : Int} (hr : rgM i k = (x, y)) : ∃ z : Int, V i k = z ∧ x ≤ z ∧ z ≤ y := by
  have := (h.1 i k).1
  rw [hr] at this
  exact ⟨_, rfl, this⟩
/-- places that the dead's word does not look at -/
abbrev mFree (i k : Nat) : Prop := (i ≠ 1 ∧ i ≠ 2 ∧ i ≠ 3) ∨ (k < 12 ∨ 20 ≤ k ∧ k ≠ 77)
theorem dOK.up {f : Nat → Int} {k : Nat} {a : Int} (h : dOK f) (hk : k < 12 ∨ 20 ≤ k ∧ k ≠ 77) : dOK (up1 f k a) := by
  intro q hq
  rw [up1_n _ _ (by omega), up1_n _ _ (by omega), up1_n _ _ (by omega)]
  exact h q hq
theorem MI.up {G V W : Nat → Nat → Int} (h : MI G V) {i k : Nat} {a : Int} (hW : W = up2 V i k a) {x y : Int} (hr : rgM i k = (x, y)) (ha : x ≤ a ∧ a ≤ y) (hp : prM i k = false) (hf : mFree i k) : MI G W := by
  subst hW
  have dd : ∀ j : Nat, (j = 1 ∨ j = 2 ∨ j = 3) → dOK (V j) → dOK (up2 V i k a j) := fun j hj hd => by
    by_cases e : j = i
    · subst e
      have e1 : up2 V j k a j = up1 (V j) k a := by simp [up2]
      rw [e1]
      exact hd.up (by omega)
    · rw [up2_c _ _ e]; exact hd
  refine ⟨fun j q => ?_, dd 1 (by omega) h.2.1, dd 2 (by omega) h.2.2.1, dd 3 (by omega) h.2.2.2⟩
  by_cases e : j = i ∧ q = k
  · obtain ⟨rfl, rfl⟩ := e
    rw [up2_s, hr]
    exact ⟨ha, fun hh => by rw [hp] at hh; cases hh⟩
  · rw [up2_n _ _ (by omega)]
    exact h.1 j q
def MR (_ : Nat → Nat → Nat) : Prop := True
def MS (G : Nat → Nat → Int) (u : xS) : Prop := MI G u.1 ∧ VJ u.2.1 ∧ MR u.2.2
theorem rgN_8 {i k : Nat} (hi : i = 1 ∨ i = 2 ∨ i = 3) (h : k < 8) : rgM i k = (0, 24) := by
  rcases hi with rfl | rfl | rfl <;> (show rgN k = _; rw [rgN, if_pos h])
theorem rgN_20 {i k : Nat} (hi : i = 1 ∨ i = 2 ∨ i = 3) (h : 8 ≤ k ∧ k < 20) : rgM i k = (0, 9) := by
  rcases hi with rfl | rfl | rfl <;> (show rgN k = _; rw [rgN, if_neg (by omega), if_pos (by omega)])
theorem rgN_60 {i k : Nat} (hi : i = 1 ∨ i = 2 ∨ i = 3) (h : 20 ≤ k ∧ k < 60) : rgM i k = (-2147483648, 2147483647) := by
  rcases hi with rfl | rfl | rfl <;> (show rgN k = _; rw [rgN, if_neg (by omega), if_neg (by omega), if_pos (by omega)])
theorem rgN_68 {i k : Nat} (hi : i = 1 ∨ i = 2 ∨ i = 3) (h : 60 ≤ k ∧ k < 68) : rgM i k = (0, 3) := by
  rcases hi with rfl | rfl | rfl <;> (show rgN k = _; rw [rgN, if_neg (by omega), if_neg (by omega), if_neg (by omega), if_pos (by omega)])
theorem rgN_81 {i k : Nat} (hi : i = 1 ∨ i = 2 ∨ i = 3) (h : 68 ≤ k) : rgM i k = (-2147483648, 2147483647) := by
  rcases hi with rfl | rfl | rfl <;> (show rgN k = _; rw [rgN, if_neg (by omega), if_neg (by omega), if_neg (by omega), if_neg (by omega)])
theorem prM_r {i k : Nat} (hi : i = 1 ∨ i = 2 ∨ i = 3) : prM i k = false := by rcases hi with rfl | rfl | rfl <;> rfl
theorem MI.al {G V : Nat → Nat → Int} (h : MI G V) {x z : Int} (hx : 0 ≤ x ∧ x ≤ 3) (hz : V 1 77 = z) (hn : ¬ iAnd (iShr z x) 1 = 1) : V 1 (12 + x.toNat) ≤ 8 ∧ V 1 (16 + x.toNat) ≤ 8 := by
  have := h.2.1 x.toNat (by omega)
  rw [hz, Int.toNat_of_nonneg hx.1] at this
  rcases this with h1 | h1
  · exact absurd h1 hn
  · exact h1
/-- bit q of a whole number of 32 bits -/
def hasb (a : Int) (q : Nat) : Bool := (Int32.ofInt a).toBitVec.getLsbD q
theorem has_iff (a : Int) {q : Nat} (hq : q < 4) : iAnd (iShr a q) 1 = 1 ↔ hasb a q = true := by
  have key : ∀ (x : BitVec 32) (r : Nat), r < 32 → ((x.sshiftRight r) &&& 1#32) = if x.getLsbD r then 1#32 else 0#32 := by
    intro x r hr
    apply BitVec.eq_of_getLsbD_eq
    intro i hi
    rw [BitVec.getLsbD_and, BitVec.getLsbD_sshiftRight]
    by_cases h0 : i = 0
    · subst h0
      cases hx : x.getLsbD r <;> simp [hx, hr]
    · have : (1#32).getLsbD i = false := by
        rw [BitVec.getLsbD_one]
        simp [h0]
      rw [this]
      cases hx : x.getLsbD r <;> simp [h0]
  have e1 : (Int32.ofInt a >>> (Int32.ofInt q &&& 31)).toBitVec = (Int32.ofInt a).toBitVec.sshiftRight q := by
    have h4 : q = 0 ∨ q = 1 ∨ q = 2 ∨ q = 3 := by omega
    rw [Int32.toBitVec_shiftRight]
    rcases h4 with rfl | rfl | rfl | rfl <;> rfl
  have e2 : iAnd (iShr a q) 1 = ((Int32.ofInt a).toBitVec.sshiftRight q &&& 1#32).toInt := by
    rw [iAnd, iShr, xi_of]
    show (Int32.ofInt a >>> (Int32.ofInt q &&& 31) &&& Int32.ofInt 1).toBitVec.toInt = _
    rw [Int32.toBitVec_and, e1]
    rfl
  rw [e2, key _ q (by omega), hasb]
  cases hx : (Int32.ofInt a).toBitVec.getLsbD q
  · simp
  · simp
theorem bit_or {a : Int} {r q : Nat} (hr : r < 4) (hq : q < 4) : hasb (iOr a (iShl 1 r)) q = (hasb a q || decide (q = r)) := by
  rw [hasb, hasb, iOr, xi_of, Int32.toBitVec_or, BitVec.getLsbD_or, iShl, xi_of]
  congr 1
  have h4 : r = 0 ∨ r = 1 ∨ r = 2 ∨ r = 3 := by omega
  have h5 : q = 0 ∨ q = 1 ∨ q = 2 ∨ q = 3 := by omega
  rcases h4 with rfl | rfl | rfl | rfl <;> rcases h5 with rfl | rfl | rfl | rfl <;> decide
theorem bit_clr {a : Int} {r q : Nat} (hr : r < 4) (hq : q < 4) : hasb (iAnd a (iXor (iShl 1 r) (-1))) q = (hasb a q && decide (q ≠ r)) := by
  rw [hasb, hasb, iAnd, xi_of, Int32.toBitVec_and, BitVec.getLsbD_and, iXor, xi_of, iShl, xi_of]
  congr 1
  have h4 : r = 0 ∨ r = 1 ∨ r = 2 ∨ r = 3 := by omega
  have h5 : q = 0 ∨ q = 1 ∨ q = 2 ∨ q = 3 := by omega
  rcases h4 with rfl | rfl | rfl | rfl <;> rcases h5 with rfl | rfl | rfl | rfl <;> decide
/-- the dead: one more -/
theorem dOK.die {f : Nat → Int} {r : Nat} (hr : r < 4) (h : ∀ q : Nat, q < 4 → q ≠ r → iAnd (iShr (f 77) q) 1 = 1 ∨ (f (12 + q) ≤ 8 ∧ f (16 + q) ≤ 8)) : dOK (up1 f 77 (iOr (f 77) (iShl 1 r))) := by
  intro q hq
  rw [up1_s, up1_n _ _ (by omega), up1_n _ _ (by omega), has_iff _ hq, bit_or hr hq]
  by_cases e : q = r
  · left; simp [e]
  · rcases h q hq e with h1 | h1
    · left
      rw [(has_iff _ hq).mp h1]
      rfl
    · exact Or.inr h1
/-- the sign that is read next, or -1 -/
def hrM (V : Nat → Nat → Int) : Int := if V 0 5 < V 0 6 then iAnd (V 4 (V 0 5).toNat) 255 else -1
/-- as MI; the dead's word of plant r is not looked at -/
def MIx (r : Nat) (G V : Nat → Nat → Int) : Prop := (∀ i k : Nat, ((rgM i k).1 ≤ V i k ∧ V i k ≤ (rgM i k).2) ∧ (prM i k = true → V i k = G i k)) ∧ (∀ q : Nat, q < 4 → q ≠ r → iAnd (iShr (V 1 77) q) 1 = 1 ∨ (V 1 (12 + q) ≤ 8 ∧ V 1 (16 + q) ≤ 8)) ∧ dOK (V 2) ∧ dOK (V 3)
theorem MIx.rd {r : Nat} {G V : Nat → Nat → Int} (h : MIx r G V) (i k : Nat) {x y : Int} (hr : rgM i k = (x, y)) : ∃ z : Int, V i k = z ∧ x ≤ z ∧ z ≤ y := by
  have := (h.1 i k).1
  rw [hr] at this
  exact ⟨_, rfl, this⟩
theorem MIx.of {r : Nat} {G V : Nat → Nat → Int} (h : MI G V) : MIx r G V := ⟨h.1, fun q hq _ => h.2.1 q hq, h.2.2⟩
/-- any place of the row but the dead's, and those of other plants -/
theorem MIx.up {r : Nat} {G V W : Nat → Nat → Int} (h : MIx r G V) {i k : Nat} {a : Int} (hW : W = up2 V i k a) {x y : Int} (hr : rgM i k = (x, y)) (ha : x ≤ a ∧ a ≤ y) (hp : prM i k = false) (hf : (i ≠ 2 ∧ i ≠ 3) ∧ (i ≠ 1 ∨ (k < 12 ∨ k = 12 + r ∨ k = 16 + r ∨ 20 ≤ k ∧ k ≠ 77) ∧ r < 4)) : MIx r G W := by
  subst hW
  refine ⟨fun j q => ?_, fun q hq hn => ?_, ?_, ?_⟩
  · by_cases e : j = i ∧ q = k
    · obtain ⟨rfl, rfl⟩ := e
      rw [up2_s, hr]
      exact ⟨ha, fun hh => by rw [hp] at hh; cases hh⟩
    · rw [up2_n _ _ (by omega)]
      exact h.1 j q
  · rw [up2_n _ _ (by omega), up2_n _ _ (by omega), up2_n _ _ (by omega)]
    exact h.2.1 q hq hn
  · rw [up2_c _ _ (by omega)]; exact h.2.2.1
  · rw [up2_c _ _ (by omega)]; exact h.2.2.2
/-- the dead bit of plant r is written anew -/
theorem MIx.set {r : Nat} {G V W : Nat → Nat → Int} (h : MIx r G V) {a : Int} (hW : W = up2 V 1 77 a) (ha : R32 a) (hb : ∀ q : Nat, q < 4 → q ≠ r → hasb a q = hasb (V 1 77) q) : MIx r G W := by
  subst hW
  refine ⟨fun j q => ?_, fun q hq hn => ?_, ?_, ?_⟩
  · by_cases e : j = 1 ∧ q = 77
    · obtain ⟨rfl, rfl⟩ := e
      rw [up2_s]
      exact ⟨ha, fun hh => by cases hh⟩
    · rw [up2_n _ _ (by omega)]
      exact h.1 j q
  · rw [up2_s, up2_n _ _ (by omega), up2_n _ _ (by omega), has_iff _ hq, hb q hq hn, ← has_iff _ hq]
    exact h.2.1 q hq hn
  · rw [up2_c _ _ (by omega)]; exact h.2.2.1
  · rw [up2_c _ _ (by omega)]; exact h.2.2.2
theorem MIx.back {r : Nat} {G V : Nat → Nat → Int} (h : MIx r G V) (hr : iAnd (iShr (V 1 77) r) 1 = 1 ∨ (V 1 (12 + r) ≤ 8 ∧ V 1 (16 + r) ≤ 8)) : MI G V := by
  refine ⟨h.1, fun q hq => ?_, h.2.2⟩
  by_cases e : q = r
  · subst e; exact hr
  · exact h.2.1 q hq e
theorem MIx.clr {r : Nat} {G V W : Nat → Nat → Int} (h : MIx r G V) (hr : r < 4) {z : Int} (hz : V 1 77 = z) (hW : W = up2 V 1 77 (iAnd z (iXor (iShl 1 r) (-1)))) : MIx r G W :=
  h.set hW (xi_r _) (fun q hq hn => by rw [bit_clr hr hq, hz]; simp [hn])
theorem MIx.die {r : Nat} {G V W : Nat → Nat → Int} (h : MIx r G V) (hr : r < 4) {z : Int} (hz : V 1 77 = z) (hW : W = up2 V 1 77 (iOr z (iShl 1 r))) : MI G W := by
  refine MIx.back (h.set hW (xi_r _) (fun q hq hn => by rw [bit_or hr hq, hz]; simp [hn])) (Or.inl ?_)
  rw [has_iff _ hr, hW, up2_s, bit_or hr hr]
  simp
end
section
def cpN (V : Nat → Nat → Int) (a b n : Nat) : Nat → Nat → Int := fun j k => if j = b ∧ k < n then V a k else V j k
theorem cpN_0 (V : Nat → Nat → Int) (a b : Nat) : cpN V a b 0 = V := by funext j k; simp [cpN]
theorem cpN_n {V : Nat → Nat → Int} {a b n j : Nat} (h : j ≠ b) : cpN V a b n j = V j := by funext k; simp [cpN, h]
theorem cpN_s {V : Nat → Nat → Int} {a b n : Nat} (h : a ≠ b) : up2 (cpN V a b n) b n (cpN V a b n a n) = cpN V a b (n + 1) := by
  rw [cpN_n h]
  funext j k
  by_cases hj : j = b
  · subst hj
    by_cases hk : k = n
    · subst hk
      rw [up2_s]
      simp [cpN]
    · rw [up2_n _ _ (Or.inr hk)]
      have : k < n + 1 ↔ k < n := by omega
      simp [cpN, this]
  · rw [up2_n _ _ (Or.inl hj)]
    simp [cpN, hj]
theorem cpN_VR {V : Nat → Nat → Int} {a b n : Nat} (h : VR V) : VR (cpN V a b n) := by
  intro j k
  unfold cpN
  split <;> exact h _ _
theorem dX12_copies_0 : decode cX12_copies 0 = .ok (.iconst 0, 1) := by decide +kernel
theorem dX12_copies_1 : decode cX12_copies 1 = .ok (.istore_n 2, 1) := by decide +kernel
theorem dX12_copies_2 : decode cX12_copies 2 = .ok (.iload_n 2, 1) := by decide +kernel
theorem dX12_copies_3 : decode cX12_copies 3 = .ok (.bipush 81, 2) := by decide +kernel
theorem dX12_copies_5 : decode cX12_copies 5 = .ok (.if_icmp .ge 15, 3) := by decide +kernel
theorem dX12_copies_8 : decode cX12_copies 8 = .ok (.aload_n 1, 1) := by decide +kernel
theorem dX12_copies_9 : decode cX12_copies 9 = .ok (.iload_n 2, 1) := by decide +kernel
theorem dX12_copies_10 : decode cX12_copies 10 = .ok (.aload_n 0, 1) := by decide +kernel
theorem dX12_copies_11 : decode cX12_copies 11 = .ok (.iload_n 2, 1) := by decide +kernel
theorem dX12_copies_12 : decode cX12_copies 12 = .ok (.iaload, 1) := by decide +kernel
theorem dX12_copies_13 : decode cX12_copies 13 = .ok (.iastore, 1) := by decide +kernel
theorem dX12_copies_14 : decode cX12_copies 14 = .ok (.iinc 2 1, 3) := by decide +kernel
theorem dX12_copies_17 : decode cX12_copies 17 = .ok (.goto (-15), 3) := by decide +kernel
theorem dX12_copies_20 : decode cX12_copies 20 = .ok (.return_, 1) := by decide +kernel
set_option maxHeartbeats 4000000 in
set_option maxRecDepth 100000 in
theorem c_copies (l : Launch) (D : va_G) (cy : Nat → ClassId) (ad : Nat → Nat) (V J : Nat → Nat → Int) (Rr : Nat → Nat → Nat) (hV : VR V) (hJ : VJ J) (ca cb : Nat) (hca : ca < 33) (hcb : cb < 33) (hda : mdsc ca = .inr (0, 81, 0, 0, 0)) (hdb : mdsc cb = .inr (0, 81, 0, 0, 0)) (hne : ca ≠ cb) : xMv l D (xTY cy) yX12_copies cX12_copies 3 none 0 0 0 0 [.ref (ad ca), .ref (ad cb)] (MW cy ad V J Rr) (fun u : xS => MW cy ad u.1 u.2.1 u.2.2) (fun u => u = (cpN V ca cb 81, J, Rr)) := by
  refine xMv.mk (lv0 := [(0, .ref (ad ca)), (1, .ref (ad cb))]) (by decide) rfl (Nat.le_of_ble_eq_true rfl) (fun p e s m below meth c A C hr hnm hAe => ?_)
  have C : xC2 p s m _ meth c D A s.heap 3 cX12_copies RX12 (xTY cy) := C
  refine x_iconst C.1 (n := 0) dX12_copies_0 ?_
  refine x_istore_n C.1 (lv' := [(2, vI 0), (0, .ref (ad ca)), (1, .ref (ad cb))]) dX12_copies_1 (by decide) rfl ?_
  refine x_loop (I := fun zi : Nat => zi ≤ 81) (μ := fun zi : Nat => 81 - zi) (wsf := fun zi : Nat => MW cy ad (cpN V ca cb zi) J Rr) (lvf := fun zi : Nat => [(2, vI (zi : Int)), (0, .ref (ad ca)), (1, .ref (ad cb))]) (fun zi hI ih1 => ?_) (0) (Nat.zero_le _) (by (try dsimp only); rw [cpN_0]) rfl
  obtain hI := hI
  try dsimp only
  refine x_iload_n C.1 dX12_copies_2 0 rfl ?_
  refine x_bipush C.1 (n := 81) dX12_copies_3 ?_
  refine x_icmp_ge C.1 (tgt := 20) dX12_copies_5 (by decide) (by omega) (by decide) (fun c5_2 => ?_) (fun c5_2 => ?_)
  · exact x_vret (S := xS) (post := fun u => u = (cpN V ca cb 81, J, Rr)) (w1 := fun u : xS => MW cy ad u.1 u.2.1 u.2.2) C hr rfl dX12_copies_20 ((cpN V ca cb zi), J, Rr) rfl (by rw [show zi = 81 by omega])
  · refine x_aload_n C.1 dX12_copies_8 2 rfl ?_
    refine x_iload_n C.1 dX12_copies_9 0 rfl ?_
    refine x_aload_n C.1 dX12_copies_10 1 rfl ?_
    refine x_iload_n C.1 dX12_copies_11 0 rfl ?_
    refine x_iald C (N := 33) (i := ca) (q := (zi : Int)) hca hda (by omega) (by decide) dX12_copies_12 (a := (cpN V ca cb zi) ca ((zi : Int).toNat)) rfl ?_
    refine x_iast C (N := 33) (i := cb) (q := (zi : Int)) (a := (cpN V ca cb zi) ca ((zi : Int).toNat)) hcb hdb (by omega) (by decide) dX12_copies_13 ?_
    refine x_iinc C.1 (v := (zi : Int) + 1) (lv' := [(2, vI ((zi : Int) + 1)), (0, .ref (ad ca)), (1, .ref (ad cb))]) rfl dX12_copies_14 0 rfl (by decide) rfl ?_
    refine x_goto C.1 (tgt := 2) dX12_copies_17 (by decide) ?_
    rw [Int.toNat_natCast, cpN_s hne, ← Int.natCast_add_one]
    exact ih1 (zi + 1) (by omega) (by omega)
theorem hd_yX12_copies : yX12_copies.cls ≠ "java/lang/invoke/MethodHandle" ∧ yX12_copies.cls ≠ "java/lang/invoke/VarHandle" ∧ (parseMethodDescriptor yX12_copies.desc).map (fun d => d.parameters.length) = some 2 := by decide +kernel
theorem MI.vr {G V : Nat → Nat → Int} (h : MI G V) : VR V := fun i k => ⟨Int.le_trans (rgM_s i k).1 (h.1 i k).1.1, Int.le_trans (h.1 i k).1.2 (rgM_s i k).2⟩
theorem MI.cp {G V W : Nat → Nat → Int} (h : MI G V) {o b : Nat} (hW : W = cpN V o b 81) (ho : o = 1 ∨ o = 2 ∨ o = 3) (hb : b = 1 ∨ b = 2 ∨ b = 3) : MI G W := by
  subst hW
  have hr : ∀ k, rgM o k = rgM b k := fun k => by rcases ho with rfl | rfl | rfl <;> rcases hb with rfl | rfl | rfl <;> rfl
  have hd : dOK (V o) := by rcases ho with rfl | rfl | rfl; exact h.2.1; exact h.2.2.1; exact h.2.2.2
  have e1 : ∀ k, k < 81 → cpN V o b 81 b k = V o k := fun k hk => by simp [cpN, hk]
  have e2 : ∀ j k, j ≠ b → cpN V o b 81 j k = V j k := fun j k hj => by simp [cpN, hj]
  have dd : ∀ j : Nat, dOK (V j) → dOK (cpN V o b 81 j) := fun j hj => by
    by_cases e : j = b
    · subst e
      intro q hq
      rw [e1 _ (by omega), e1 _ (by omega), e1 _ (by omega)]
      exact hd q hq
    · intro q hq
      rw [e2 _ _ e, e2 _ _ e, e2 _ _ e]
      exact hj q hq
  refine ⟨fun j k => ?_, dd 1 h.2.1, dd 2 h.2.2.1, dd 3 h.2.2.2⟩
  by_cases e : j = b ∧ k < 81
  · obtain ⟨rfl, hk⟩ := e
    rw [e1 _ hk, ← hr]
    exact ⟨(h.1 o k).1, fun hh => by rw [prM_r hb] at hh; cases hh⟩
  · have : cpN V o b 81 j k = V j k := by
      unfold cpN
      rw [if_neg (by omega)]
    rw [this]
    exact h.1 j k
/-- what is watched is kept anew -/
theorem MI.upG {G V W : Nat → Nat → Int} (h : MI G V) {i k : Nat} {a : Int} (hW : W = up2 V i k a) {x y : Int} (hr : rgM i k = (x, y)) (ha : x ≤ a ∧ a ≤ y) (hf : mFree i k) : MI (up2 G i k a) W := by
  subst hW
  have dd : ∀ j : Nat, (j = 1 ∨ j = 2 ∨ j = 3) → dOK (V j) → dOK (up2 V i k a j) := fun j hj hd => by
    by_cases e : j = i
    · subst e
      have e1 : up2 V j k a j = up1 (V j) k a := by simp [up2]
      rw [e1]
      exact hd.up (by omega)
    · rw [up2_c _ _ e]; exact hd
  refine ⟨fun j q => ?_, dd 1 (by omega) h.2.1, dd 2 (by omega) h.2.2.1, dd 3 (by omega) h.2.2.2⟩
  by_cases e : j = i ∧ q = k
  · obtain ⟨rfl, rfl⟩ := e
    rw [up2_s, up2_s, hr]
    exact ⟨ha, fun _ => rfl⟩
  · rw [up2_n _ _ (by omega), up2_n _ _ (by omega)]
    exact h.1 j q
theorem jRem_lt {a b : Int} (ha : R64 a) (hb : R64 b) (h : ¬ b = 0) : (jRem a b).natAbs < b.natAbs := by
  have h1 : Int64.ofInt a / Int64.ofInt b = Int64.ofInt (a.tdiv b) := by
    refine Int64.toInt_inj.mp ?_
    rw [Int64.toInt_div, xj_toInt ha, xj_toInt hb, Int64.toInt_ofInt]
  have hm : (a.tmod b).natAbs < b.natAbs := by
    rw [Int.natAbs_tmod]
    exact Nat.mod_lt _ (by omega)
  have h2 : jRem a b = a.tmod b := by
    rw [jRem, h1, ← Int64.ofInt_mul, ← Int64.ofInt_sub, show a - a.tdiv b * b = a.tmod b by rw [Int.tmod_def, Int.mul_comm]]
    rw [xj_toInt ⟨by omega, by omega⟩]
  rw [h2]
  exact hm
end
section
-- the reference: what a method keeps of the three rows
abbrev KI (S : Nat → Nat → Prop) (K G V : Nat → Nat → Int) : Prop := MI G V ∧ ∀ i k : Nat, S i k → V i k = K i k
abbrev sA (i _ : Nat) : Prop := i = 1 ∨ i = 2 ∨ i = 3
abbrev sW (i k : Nat) : Prop := i = 2 ∨ i = 3 ∨ (i = 1 ∧ 8 ≤ k ∧ k < 20)
abbrev sD (i _ : Nat) : Prop := i = 2 ∨ i = 3
abbrev AI (K G V : Nat → Nat → Int) : Prop := KI sA K G V
abbrev WI (K G V : Nat → Nat → Int) : Prop := KI sW K G V
abbrev DI (K G V : Nat → Nat → Int) : Prop := KI sD K G V
section XKI
variable {S S2 : Nat → Nat → Prop} {K G V W : Nat → Nat → Int} {i k : Nat} {a x y : Int}
theorem KI.rd (h : KI S K G V) (i k : Nat) {x y : Int} (hr : rgM i k = (x, y)) : ∃ z : Int, V i k = z ∧ x ≤ z ∧ z ≤ y := h.1.rd i k hr
theorem KI.vr (h : KI S K G V) : VR V := h.1.vr
theorem KI.self (h : MI G V) : KI S V G V := ⟨h, fun _ _ _ => rfl⟩
theorem KI.back (h : KI S2 V G W) (h0 : KI S K G V) (sub : ∀ i k, S i k → S2 i k) : KI S K G W := ⟨h.1, fun i k hs => (h.2 i k (sub i k hs)).trans (h0.2 i k hs)⟩
theorem sub_AA : ∀ i k, sA i k → sA i k := fun _ _ h => h
theorem sub_WA : ∀ i k, sW i k → sA i k := fun i k h => by unfold sW at h; unfold sA; omega
theorem sub_DA : ∀ i k, sD i k → sA i k := fun i k h => by unfold sD at h; unfold sA; omega
theorem sub_DD : ∀ i k, sD i k → sD i k := fun _ _ h => h
theorem KI.up (h : KI S K G V) (hW : W = up2 V i k a) (hr : rgM i k = (x, y)) (ha : x ≤ a ∧ a ≤ y) (hp : prM i k = false) (hf : mFree i k) (hs : ∀ j q, S j q → j ≠ i ∨ q ≠ k) : KI S K G W := ⟨h.1.up hW hr ha hp hf, fun j q hj => by rw [hW, up2_n _ _ (hs j q hj)]; exact h.2 j q hj⟩
theorem AI.up (h : AI K G V) (hW : W = up2 V i k a) {x y : Int} (hr : rgM i k = (x, y)) (ha : x ≤ a ∧ a ≤ y) (hp : prM i k = false) (hf : (i ≠ 1 ∧ i ≠ 2 ∧ i ≠ 3) ∨ False) : AI K G W :=
  KI.up h hW hr ha hp (Or.inl (hf.resolve_right id)) (fun j q hj => by have hf := hf.resolve_right id; unfold sA at hj; omega)
theorem WI.up (h : WI K G V) (hW : W = up2 V i k a) {x y : Int} (hr : rgM i k = (x, y)) (ha : x ≤ a ∧ a ≤ y) (hp : prM i k = false) (hf : (i ≠ 1 ∧ i ≠ 2 ∧ i ≠ 3) ∨ (i = 1 ∧ (k < 8 ∨ 20 ≤ k ∧ k ≠ 77))) : WI K G W :=
  KI.up h hW hr ha hp (by unfold mFree; omega) (fun j q hj => by unfold sW at hj; omega)
theorem DI.up (h : DI K G V) (hW : W = up2 V i k a) {x y : Int} (hr : rgM i k = (x, y)) (ha : x ≤ a ∧ a ≤ y) (hp : prM i k = false) (hf : (i ≠ 1 ∧ i ≠ 2 ∧ i ≠ 3) ∨ (i = 1 ∧ (k < 12 ∨ 20 ≤ k ∧ k ≠ 77))) : DI K G W :=
  KI.up h hW hr ha hp (by unfold mFree; omega) (fun j q hj => by unfold sD at hj; omega)
/-- as DI, while the dead's word of plant r is not looked at -/
abbrev DX (r : Nat) (K G V : Nat → Nat → Int) : Prop := MIx r G V ∧ ∀ i k : Nat, sD i k → V i k = K i k
theorem DX.rd {r : Nat} (h : DX r K G V) (i k : Nat) {x y : Int} (hr : rgM i k = (x, y)) : ∃ z : Int, V i k = z ∧ x ≤ z ∧ z ≤ y := h.1.rd i k hr
theorem DX.of {r : Nat} (h : DI K G V) : DX r K G V := ⟨MIx.of h.1, h.2⟩
theorem DX.up {r : Nat} (h : DX r K G V) (hW : W = up2 V i k a) {x y : Int} (hr : rgM i k = (x, y)) (ha : x ≤ a ∧ a ≤ y) (hp : prM i k = false) (hf : (i ≠ 1 ∧ i ≠ 2 ∧ i ≠ 3) ∨ (i = 1 ∧ (k < 12 ∨ k = 12 + r ∨ k = 16 + r ∨ 20 ≤ k ∧ k ≠ 77) ∧ r < 4)) : DX r K G W :=
  ⟨h.1.up hW hr ha hp (by omega), fun j q hj => by unfold sD at hj; rw [hW, up2_n _ _ (by omega)]; exact h.2 j q hj⟩
theorem DX.back {r : Nat} (h : DX r K G V) (hr : V 1 (12 + r) ≤ 8 ∧ V 1 (16 + r) ≤ 8) : DI K G V := ⟨h.1.back (Or.inr hr), h.2⟩
theorem DX.die {r : Nat} (h : DX r K G V) (hr : r < 4) {z : Int} (hz : V 1 77 = z) (hW : W = up2 V 1 77 (iOr z (iShl 1 r))) : DI K G W :=
  ⟨h.1.die hr hz hW, fun j q hj => by unfold sD at hj; rw [hW, up2_n _ _ (by omega)]; exact h.2 j q hj⟩
end XKI
/-- what the texts' tables say holds of the store too -/
theorem MI.g {G V : Nat → Nat → Int} (h : MI G V) {i k : Nat} {z : Int} (hz : V i k = z) (hp : prM i k = true) : G i k = z := ((h.1 i k).2 hp).symm.trans hz
theorem MIx.vr {r : Nat} {G V : Nat → Nat → Int} (h : MIx r G V) : VR V := fun i k => ⟨Int.le_trans (rgM_s i k).1 (h.1 i k).1.1, Int.le_trans (h.1 i k).1.2 (rgM_s i k).2⟩
def tp (k : Int) : Int := 10 ^ k.toNat
theorem tp_0 : tp 0 = 1 := rfl
theorem tp_s {k : Int} (h : 0 ≤ k) : tp (k + 1) = 10 * tp k := by
  rw [tp, tp, show (k + 1).toNat = k.toNat + 1 by omega, Int.pow_succ, Int.mul_comm]
theorem tp_b {k : Int} (h : 0 ≤ k ∧ k ≤ 18) : 1 ≤ tp k ∧ tp k ≤ 1000000000000000000 := by
  have e : ∀ n : Nat, n < 19 → (1 : Int) ≤ 10 ^ n ∧ (10 : Int) ^ n ≤ 1000000000000000000 := by decide
  exact e k.toNat (by omega)
theorem cpN_at {V : Nat → Nat → Int} {a b n k : Nat} (h : k < n) : cpN V a b n b k = V a k := by simp [cpN, h]
theorem mul18 {x y z : Int} (hx : 1 ≤ x) (hy : 0 ≤ y ∧ y ≤ z) (h : x * (z + 1) ≤ 18) : 1 ≤ x * (y + 1) ∧ x * (y + 1) ≤ 18 := by
  have h1 : x * (y + 1) ≤ x * (z + 1) := Int.mul_le_mul_of_nonneg_left (by omega) (by omega)
  have h2 : 1 * 1 ≤ x * (y + 1) := Int.mul_le_mul hx (by omega) (by omega) (by omega)
  omega
theorem hrM_b (V : Nat → Nat → Int) : -1 ≤ hrM V ∧ hrM V ≤ 255 := by
  unfold hrM
  split
  · have := iAnd_leB (V 4 (V 0 5).toNat) (q := 255) (B := 255) (by omega); omega
  · omega
theorem hrM_lt {V : Nat → Nat → Int} (h : 0 ≤ hrM V) : V 0 5 < V 0 6 := by
  unfold hrM at h
  split at h
  · assumption
  · omega
abbrev PX (r : Nat) (G V : Nat → Nat → Int) : Prop := MIx r G V
theorem PX.up {r : Nat} {G V W : Nat → Nat → Int} {i k : Nat} {a : Int} (h : PX r G V) (hW : W = up2 V i k a) {x y : Int} (hr : rgM i k = (x, y)) (ha : x ≤ a ∧ a ≤ y) (hp : prM i k = false) (hf : (i ≠ 1 ∧ i ≠ 2 ∧ i ≠ 3) ∨ (i = 1 ∧ (k < 12 ∨ k = 12 + r ∨ k = 16 + r ∨ 20 ≤ k ∧ k ≠ 77) ∧ r < 4)) : PX r G W := MIx.up h hW hr ha hp (by omega)
end
section
theorem FBm.cp {m : Nat} {V W X : Nat → Nat → Int} (h : FBm m V W) {a b n : Nat} (hX : X = cpN W a b n) (ht : ∀ k, m.testBit (mkey b k) = true) : FBm m V X := by
  subst hX
  intro j q hj
  unfold cpN
  split
  · next hh =>
    obtain ⟨rfl, -⟩ := hh
    rw [ht] at hj
    cases hj
  · exact h j q hj
end
section
theorem dX12_in_0 : decode cX12_in 0 = .ok (.iload_n 0, 1) := by decide +kernel
theorem dX12_in_1 : decode cX12_in 1 = .ok (.iload_n 1, 1) := by decide +kernel
theorem dX12_in_2 : decode cX12_in 2 = .ok (.if_icmp .lt 12, 3) := by decide +kernel
theorem dX12_in_5 : decode cX12_in 5 = .ok (.iload_n 0, 1) := by decide +kernel
theorem dX12_in_6 : decode cX12_in 6 = .ok (.iload_n 2, 1) := by decide +kernel
theorem dX12_in_7 : decode cX12_in 7 = .ok (.if_icmp .gt 7, 3) := by decide +kernel
theorem dX12_in_10 : decode cX12_in 10 = .ok (.iconst 1, 1) := by decide +kernel
theorem dX12_in_11 : decode cX12_in 11 = .ok (.goto 4, 3) := by decide +kernel
theorem dX12_in_14 : decode cX12_in 14 = .ok (.iconst 0, 1) := by decide +kernel
theorem dX12_in_15 : decode cX12_in 15 = .ok (.ireturn, 1) := by decide +kernel
set_option maxRecDepth 100000 in
def f_m_in (x0 : Int) (x1 : Int) (x2 : Int) : (Int) → Prop :=
  (if x0 < x1 then rtn 0 else (if x2 < x0 then rtn 0 else rtn 1))
set_option maxHeartbeats 8000000 in
set_option maxRecDepth 100000 in
theorem m_in (l : Launch) (D : va_G) (cy : Nat → ClassId) (x0 : Int) (bx0 : -2147483648 ≤ x0 ∧ x0 ≤ 2147483647) (x1 : Int) (bx1 : -2147483648 ≤ x1 ∧ x1 ≤ 2147483647) (x2 : Int) (bx2 : -2147483648 ≤ x2 ∧ x2 ≤ 2147483647) : xMi l D (xTY cy) yX12_in cX12_in 3 (some .boolean) 0 0 0 0 [vI x0, vI x1, vI x2] [] (fun _ : Unit => []) (fun a (u : Unit) => (0 ≤ a ∧ a ≤ 1) ∧ (Sq a (x1 ≤ x0 ∧ x0 ≤ x2)) ∧ (f_m_in x0 x1 x2) a) := by
  refine xMi.mk (lv0 := [(0, vI x0), (1, vI x1), (2, vI x2)]) (by decide) rfl (Nat.le_of_ble_eq_true rfl) (fun p e s m below meth c A C hr hnm hAe => ?_)
  have C : xC2 p s m _ meth c D A s.heap 3 cX12_in RX12 (xTY cy) := C
  have hF := Imp.of_eq (f_m_in.eq_def x0 x1 x2)
  refine x_iload_n C.1 dX12_in_0 0 rfl ?_
  refine x_iload_n C.1 dX12_in_1 1 rfl ?_
  refine x_icmp_lt C.1 (tgt := 14) dX12_in_2 (by decide) (by omega) (by omega) (fun hc1 => ?_) (fun hc1 => ?_)
  · replace hF := hF.to (if_pos hc1)
    refine x_iconst C.1 (n := 0) dX12_in_14 ?_
    exact x_zret (S := Unit) (post := (fun a (u : Unit) => (0 ≤ a ∧ a ≤ 1) ∧ (Sq a (x1 ≤ x0 ∧ x0 ≤ x2)) ∧ (f_m_in x0 x1 x2) a)) (w1 := (fun _ : Unit => [])) (a := 0) C hr rfl dX12_in_15 (by decide) () rfl ⟨⟨by decide, by decide⟩, (Or.inr ⟨rfl, by omega⟩), hF _ rfl⟩
  · replace hF := hF.to (if_neg hc1)
    refine x_iload_n C.1 dX12_in_5 0 rfl ?_
    refine x_iload_n C.1 dX12_in_6 2 rfl ?_
    refine x_icmp_gt C.1 (tgt := 14) dX12_in_7 (by decide) (by omega) (by omega) (fun hc2 => ?_) (fun hc2 => ?_)
    · replace hF := hF.to (if_pos hc2)
      refine x_iconst C.1 (n := 0) dX12_in_14 ?_
      exact x_zret (S := Unit) (post := (fun a (u : Unit) => (0 ≤ a ∧ a ≤ 1) ∧ (Sq a (x1 ≤ x0 ∧ x0 ≤ x2)) ∧ (f_m_in x0 x1 x2) a)) (w1 := (fun _ : Unit => [])) (a := 0) C hr rfl dX12_in_15 (by decide) () rfl ⟨⟨by decide, by decide⟩, (Or.inr ⟨rfl, by omega⟩), hF _ rfl⟩
    · replace hF := hF.to (if_neg hc2)
      refine x_iconst C.1 (n := 1) dX12_in_10 ?_
      refine x_goto C.1 (tgt := 15) dX12_in_11 (by decide) ?_
      exact x_zret (S := Unit) (post := (fun a (u : Unit) => (0 ≤ a ∧ a ≤ 1) ∧ (Sq a (x1 ≤ x0 ∧ x0 ≤ x2)) ∧ (f_m_in x0 x1 x2) a)) (w1 := (fun _ : Unit => [])) (a := 1) C hr rfl dX12_in_15 (by decide) () rfl ⟨⟨by decide, by decide⟩, (Or.inl ⟨rfl, by omega⟩), hF _ rfl⟩
theorem dX12_min_0 : decode cX12_min 0 = .ok (.iload_n 0, 1) := by decide +kernel
theorem dX12_min_1 : decode cX12_min 1 = .ok (.iload_n 1, 1) := by decide +kernel
theorem dX12_min_2 : decode cX12_min 2 = .ok (.if_icmp .ge 7, 3) := by decide +kernel
theorem dX12_min_5 : decode cX12_min 5 = .ok (.iload_n 0, 1) := by decide +kernel
theorem dX12_min_6 : decode cX12_min 6 = .ok (.goto 4, 3) := by decide +kernel
theorem dX12_min_9 : decode cX12_min 9 = .ok (.iload_n 1, 1) := by decide +kernel
theorem dX12_min_10 : decode cX12_min 10 = .ok (.ireturn, 1) := by decide +kernel
set_option maxRecDepth 100000 in
def f_m_min (x0 : Int) (x1 : Int) : (Int) → Prop :=
  (if x1 ≤ x0 then rtn x1 else rtn x0)
set_option maxHeartbeats 8000000 in
set_option maxRecDepth 100000 in
theorem m_min (l : Launch) (D : va_G) (cy : Nat → ClassId) (x0 : Int) (bx0 : -2147483648 ≤ x0 ∧ x0 ≤ 2147483647) (x1 : Int) (bx1 : -2147483648 ≤ x1 ∧ x1 ≤ 2147483647) : xMi l D (xTY cy) yX12_min cX12_min 2 (some .int) 0 0 0 0 [vI x0, vI x1] [] (fun _ : Unit => []) (fun a (u : Unit) => ((a = x0 ∧ x0 ≤ x1) ∨ (a = x1 ∧ x1 ≤ x0)) ∧ (f_m_min x0 x1) a) := by
  refine xMi.mk (lv0 := [(0, vI x0), (1, vI x1)]) (by decide) rfl (Nat.le_of_ble_eq_true rfl) (fun p e s m below meth c A C hr hnm hAe => ?_)
  have C : xC2 p s m _ meth c D A s.heap 2 cX12_min RX12 (xTY cy) := C
  have hF := Imp.of_eq (f_m_min.eq_def x0 x1)
  refine x_iload_n C.1 dX12_min_0 0 rfl ?_
  refine x_iload_n C.1 dX12_min_1 1 rfl ?_
  refine x_icmp_ge C.1 (tgt := 9) dX12_min_2 (by decide) (by omega) (by omega) (fun hc1 => ?_) (fun hc1 => ?_)
  · replace hF := hF.to (if_pos hc1)
    refine x_iload_n C.1 dX12_min_9 1 rfl ?_
    exact x_iret (S := Unit) (post := (fun a (u : Unit) => ((a = x0 ∧ x0 ≤ x1) ∨ (a = x1 ∧ x1 ≤ x0)) ∧ (f_m_min x0 x1) a)) (w1 := (fun _ : Unit => [])) (a := x1) C hr rfl dX12_min_10 (by omega) () rfl ⟨(by omega), hF _ rfl⟩
  · replace hF := hF.to (if_neg hc1)
    refine x_iload_n C.1 dX12_min_5 0 rfl ?_
    refine x_goto C.1 (tgt := 10) dX12_min_6 (by decide) ?_
    exact x_iret (S := Unit) (post := (fun a (u : Unit) => ((a = x0 ∧ x0 ≤ x1) ∨ (a = x1 ∧ x1 ≤ x0)) ∧ (f_m_min x0 x1) a)) (w1 := (fun _ : Unit => [])) (a := x0) C hr rfl dX12_min_10 (by omega) () rfl ⟨(by omega), hF _ rfl⟩
theorem dX12_max_0 : decode cX12_max 0 = .ok (.iload_n 0, 1) := by decide +kernel
theorem dX12_max_1 : decode cX12_max 1 = .ok (.iload_n 1, 1) := by decide +kernel
theorem dX12_max_2 : decode cX12_max 2 = .ok (.if_icmp .le 7, 3) := by decide +kernel
theorem dX12_max_5 : decode cX12_max 5 = .ok (.iload_n 0, 1) := by decide +kernel
theorem dX12_max_6 : decode cX12_max 6 = .ok (.goto 4, 3) := by decide +kernel
theorem dX12_max_9 : decode cX12_max 9 = .ok (.iload_n 1, 1) := by decide +kernel
theorem dX12_max_10 : decode cX12_max 10 = .ok (.ireturn, 1) := by decide +kernel
set_option maxRecDepth 100000 in
def f_m_max (x0 : Int) (x1 : Int) : (Int) → Prop :=
  (if x0 ≤ x1 then rtn x1 else rtn x0)
set_option maxHeartbeats 8000000 in
set_option maxRecDepth 100000 in
theorem m_max (l : Launch) (D : va_G) (cy : Nat → ClassId) (x0 : Int) (bx0 : -2147483648 ≤ x0 ∧ x0 ≤ 2147483647) (x1 : Int) (bx1 : -2147483648 ≤ x1 ∧ x1 ≤ 2147483647) : xMi l D (xTY cy) yX12_max cX12_max 2 (some .int) 0 0 0 0 [vI x0, vI x1] [] (fun _ : Unit => []) (fun a (u : Unit) => ((a = x0 ∧ x1 ≤ x0) ∨ (a = x1 ∧ x0 ≤ x1)) ∧ (f_m_max x0 x1) a) := by
  refine xMi.mk (lv0 := [(0, vI x0), (1, vI x1)]) (by decide) rfl (Nat.le_of_ble_eq_true rfl) (fun p e s m below meth c A C hr hnm hAe => ?_)
  have C : xC2 p s m _ meth c D A s.heap 2 cX12_max RX12 (xTY cy) := C
  have hF := Imp.of_eq (f_m_max.eq_def x0 x1)
  refine x_iload_n C.1 dX12_max_0 0 rfl ?_
  refine x_iload_n C.1 dX12_max_1 1 rfl ?_
  refine x_icmp_le C.1 (tgt := 9) dX12_max_2 (by decide) (by omega) (by omega) (fun hc1 => ?_) (fun hc1 => ?_)
  · replace hF := hF.to (if_pos hc1)
    refine x_iload_n C.1 dX12_max_9 1 rfl ?_
    exact x_iret (S := Unit) (post := (fun a (u : Unit) => ((a = x0 ∧ x1 ≤ x0) ∨ (a = x1 ∧ x0 ≤ x1)) ∧ (f_m_max x0 x1) a)) (w1 := (fun _ : Unit => [])) (a := x1) C hr rfl dX12_max_10 (by omega) () rfl ⟨(by omega), hF _ rfl⟩
  · replace hF := hF.to (if_neg hc1)
    refine x_iload_n C.1 dX12_max_5 0 rfl ?_
    refine x_goto C.1 (tgt := 10) dX12_max_6 (by decide) ?_
    exact x_iret (S := Unit) (post := (fun a (u : Unit) => ((a = x0 ∧ x1 ≤ x0) ∨ (a = x1 ∧ x0 ≤ x1)) ∧ (f_m_max x0 x1) a)) (w1 := (fun _ : Unit => [])) (a := x0) C hr rfl dX12_max_10 (by omega) () rfl ⟨(by omega), hF _ rfl⟩
theorem dX12_has_0 : decode cX12_has 0 = .ok (.iload_n 0, 1) := by decide +kernel
theorem dX12_has_1 : decode cX12_has 1 = .ok (.iload_n 1, 1) := by decide +kernel
theorem dX12_has_2 : decode cX12_has 2 = .ok (.ishr, 1) := by decide +kernel
theorem dX12_has_3 : decode cX12_has 3 = .ok (.iconst 1, 1) := by decide +kernel
theorem dX12_has_4 : decode cX12_has 4 = .ok (.iand, 1) := by decide +kernel
theorem dX12_has_5 : decode cX12_has 5 = .ok (.iconst 1, 1) := by decide +kernel
theorem dX12_has_6 : decode cX12_has 6 = .ok (.if_icmp .ne 7, 3) := by decide +kernel
theorem dX12_has_9 : decode cX12_has 9 = .ok (.iconst 1, 1) := by decide +kernel
theorem dX12_has_10 : decode cX12_has 10 = .ok (.goto 4, 3) := by decide +kernel
theorem dX12_has_13 : decode cX12_has 13 = .ok (.iconst 0, 1) := by decide +kernel
theorem dX12_has_14 : decode cX12_has 14 = .ok (.ireturn, 1) := by decide +kernel
set_option maxRecDepth 100000 in
def f_m_has (x0 : Int) (x1 : Int) : (Int) → Prop :=
  rdb (iShr x0 x1) fun z1 => rdb (iAnd z1 1) fun z2 => fct (0 ≤ z2 ∧ z2 ≤ 1) <| (if ¬ z2 = 1 then rtn 0 else rtn 1)
set_option maxHeartbeats 8000000 in
set_option maxRecDepth 100000 in
theorem m_has (l : Launch) (D : va_G) (cy : Nat → ClassId) (x0 : Int) (bx0 : -2147483648 ≤ x0 ∧ x0 ≤ 2147483647) (x1 : Int) (bx1 : -2147483648 ≤ x1 ∧ x1 ≤ 2147483647) : xMi l D (xTY cy) yX12_has cX12_has 2 (some .boolean) 0 0 0 0 [vI x0, vI x1] [] (fun _ : Unit => []) (fun a (u : Unit) => (0 ≤ a ∧ a ≤ 1) ∧ Sq a (iAnd (iShr x0 x1) 1 = 1) ∧ (f_m_has x0 x1) a) := by
  refine xMi.mk (lv0 := [(0, vI x0), (1, vI x1)]) (by decide) rfl (Nat.le_of_ble_eq_true rfl) (fun p e s m below meth c A C hr hnm hAe => ?_)
  have C : xC2 p s m _ meth c D A s.heap 2 cX12_has RX12 (xTY cy) := C
  have hF := Imp.of_eq (f_m_has.eq_def x0 x1)
  refine x_iload_n C.1 dX12_has_0 0 rfl ?_
  refine x_iload_n C.1 dX12_has_1 1 rfl ?_
  obtain ⟨z1, hz1, bz1⟩ : ∃ z : Int, iShr x0 x1 = z ∧ (-2147483648 ≤ z ∧ z ≤ 2147483647) := ⟨_, rfl, xi_r _⟩
  replace hF := hF.to (rdb_e (z := z1) hz1)
  refine x_ishr C.1 (v := z1) hz1 dX12_has_2 ?_
  refine x_iconst C.1 (n := 1) dX12_has_3 ?_
  obtain ⟨z2, hz2, bz2⟩ : ∃ z : Int, iAnd z1 1 = z ∧ (0 ≤ z ∧ z ≤ 1) := ⟨_, rfl, iAnd_leB _ (by decide)⟩
  replace hF := hF.to (rdb_e (z := z2) hz2)
  replace hF := hF.fc bz2
  refine x_iand C.1 (v := z2) hz2 dX12_has_4 ?_
  refine x_iconst C.1 (n := 1) dX12_has_5 ?_
  refine x_icmp_ne C.1 (tgt := 13) dX12_has_6 (by decide) (by omega) (by decide) (fun hc3 => ?_) (fun hc3 => ?_)
  · replace hF := hF.to (if_pos hc3)
    refine x_iconst C.1 (n := 0) dX12_has_13 ?_
    exact x_zret (S := Unit) (post := (fun a (u : Unit) => (0 ≤ a ∧ a ≤ 1) ∧ Sq a (iAnd (iShr x0 x1) 1 = 1) ∧ (f_m_has x0 x1) a)) (w1 := (fun _ : Unit => [])) (a := 0) C hr rfl dX12_has_14 (by decide) () rfl ⟨⟨by decide, by decide⟩, (by subst_vars; exact Or.inr ⟨rfl, by omega⟩), hF _ rfl⟩
  · replace hF := hF.to (if_neg (fun hh => hh hc3))
    refine x_iconst C.1 (n := 1) dX12_has_9 ?_
    refine x_goto C.1 (tgt := 14) dX12_has_10 (by decide) ?_
    exact x_zret (S := Unit) (post := (fun a (u : Unit) => (0 ≤ a ∧ a ≤ 1) ∧ Sq a (iAnd (iShr x0 x1) 1 = 1) ∧ (f_m_has x0 x1) a)) (w1 := (fun _ : Unit => [])) (a := 1) C hr rfl dX12_has_14 (by decide) () rfl ⟨⟨by decide, by decide⟩, (by subst_vars; exact Or.inl ⟨rfl, by omega⟩), hF _ rfl⟩
theorem dX12_bits_0 : decode cX12_bits 0 = .ok (.iconst 0, 1) := by decide +kernel
theorem dX12_bits_1 : decode cX12_bits 1 = .ok (.istore_n 1, 1) := by decide +kernel
theorem dX12_bits_2 : decode cX12_bits 2 = .ok (.iconst 0, 1) := by decide +kernel
theorem dX12_bits_3 : decode cX12_bits 3 = .ok (.istore_n 2, 1) := by decide +kernel
theorem dX12_bits_4 : decode cX12_bits 4 = .ok (.iload_n 2, 1) := by decide +kernel
theorem dX12_bits_5 : decode cX12_bits 5 = .ok (.bipush 8, 2) := by decide +kernel
theorem dX12_bits_7 : decode cX12_bits 7 = .ok (.if_icmp .ge 17, 3) := by decide +kernel
theorem dX12_bits_10 : decode cX12_bits 10 = .ok (.iload_n 1, 1) := by decide +kernel
theorem dX12_bits_11 : decode cX12_bits 11 = .ok (.iload_n 0, 1) := by decide +kernel
theorem dX12_bits_12 : decode cX12_bits 12 = .ok (.iload_n 2, 1) := by decide +kernel
theorem dX12_bits_13 : decode cX12_bits 13 = .ok (.ishr, 1) := by decide +kernel
theorem dX12_bits_14 : decode cX12_bits 14 = .ok (.iconst 1, 1) := by decide +kernel
theorem dX12_bits_15 : decode cX12_bits 15 = .ok (.iand, 1) := by decide +kernel
theorem dX12_bits_16 : decode cX12_bits 16 = .ok (.iadd, 1) := by decide +kernel
theorem dX12_bits_17 : decode cX12_bits 17 = .ok (.istore_n 1, 1) := by decide +kernel
theorem dX12_bits_18 : decode cX12_bits 18 = .ok (.iinc 2 1, 3) := by decide +kernel
theorem dX12_bits_21 : decode cX12_bits 21 = .ok (.goto (-17), 3) := by decide +kernel
theorem dX12_bits_24 : decode cX12_bits 24 = .ok (.iload_n 1, 1) := by decide +kernel
theorem dX12_bits_25 : decode cX12_bits 25 = .ok (.ireturn, 1) := by decide +kernel
set_option maxRecDepth 100000 in
def f_m_bits (x0 : Int) : (Int) → Prop :=
  lop2 (10) (fun rc35 (z33 : Int) (z34 : Int) => (if 8 ≤ z33 then rtn z34 else rdb (iShr x0 z33) fun z41 => rdb (iAnd z41 1) fun z42 => fct (0 ≤ z42 ∧ z42 ≤ 1) <| rdb (wr (z34 + z42)) fun z43 => rc35 (z33 + 1) z43)) 0 0
set_option maxHeartbeats 8000000 in
set_option maxRecDepth 100000 in
theorem m_bits (l : Launch) (D : va_G) (cy : Nat → ClassId) (x0 : Int) (bx0 : -2147483648 ≤ x0 ∧ x0 ≤ 2147483647) : xMi l D (xTY cy) yX12_bits cX12_bits 3 (some .int) 0 0 0 0 [vI x0] [] (fun _ : Unit => []) (fun a (u : Unit) => (f_m_bits x0) a) := by
  refine xMi.mk (lv0 := [(0, vI x0)]) (by decide) rfl (Nat.le_of_ble_eq_true rfl) (fun p e s m below meth c A C hr hnm hAe => ?_)
  have C : xC2 p s m _ meth c D A s.heap 3 cX12_bits RX12 (xTY cy) := C
  have hF := Imp.of_eq (f_m_bits.eq_def x0)
  refine x_iconst C.1 (n := 0) dX12_bits_0 ?_
  refine x_istore_n C.1 (lv' := [(1, vI 0), (0, vI x0)]) dX12_bits_1 (by decide) rfl ?_
  refine x_iconst C.1 (n := 0) dX12_bits_2 ?_
  refine x_istore_n C.1 (lv' := [(2, vI 0), (1, vI 0), (0, vI x0)]) dX12_bits_3 (by decide) rfl ?_
  obtain ⟨bd35, hbd35, hF⟩ := lop2_ex hF
  refine x_loop (I := fun x : Int × Int => match x with | (z33, z34) => (0 ≤ z33 ∧ z33 ≤ 8) ∧ (-2147483648 ≤ z34 ∧ z34 ≤ 2147483647) ∧ (∃ nf : Nat, (9 - z33).toNat < nf ∧ Imp (lop2 nf bd35 z33 z34) (f_m_bits x0))) (μ := fun x : Int × Int => match x with | (z33, z34) => (9 - z33).toNat) (wsf := fun x : Int × Int => match x with | (z33, z34) => []) (lvf := fun x : Int × Int => match x with | (z33, z34) => [(2, vI z33), (1, vI z34), (0, vI x0)]) (fun x hI35x ih35 => ?_) (0, 0) ⟨⟨by decide, by decide⟩, ⟨by decide, by decide⟩, ⟨_, (by omega), hF⟩⟩ rfl rfl
  obtain ⟨z33, z34⟩ := x
  obtain ⟨bz33, bz34, nf35, hn35, hF⟩ := hI35x
  try dsimp only
  obtain ⟨nf35, rfl⟩ : ∃ mm, nf35 = mm + 1 := ⟨nf35 - 1, (Nat.succ_pred_eq_of_pos (Nat.lt_of_le_of_lt (Nat.zero_le _) hn35)).symm⟩
  replace hF := hF.to (lop2_s hbd35)
  refine x_iload_n C.1 dX12_bits_4 0 rfl ?_
  refine x_bipush C.1 (n := 8) dX12_bits_5 ?_
  refine x_icmp_ge C.1 (tgt := 24) dX12_bits_7 (by decide) (by omega) (by decide) (fun hc40 => ?_) (fun hc40 => ?_)
  · replace hF := hF.to (if_pos hc40)
    refine x_iload_n C.1 dX12_bits_24 1 rfl ?_
    exact x_iret (S := Unit) (post := (fun a (u : Unit) => (f_m_bits x0) a)) (w1 := (fun _ : Unit => [])) (a := z34) C hr rfl dX12_bits_25 (by omega) () rfl (hF _ rfl)
  · replace hF := hF.to (if_neg hc40)
    refine x_iload_n C.1 dX12_bits_10 1 rfl ?_
    refine x_iload_n C.1 dX12_bits_11 2 rfl ?_
    refine x_iload_n C.1 dX12_bits_12 0 rfl ?_
    obtain ⟨z41, hz41, bz41⟩ : ∃ z : Int, iShr x0 z33 = z ∧ (-2147483648 ≤ z ∧ z ≤ 2147483647) := ⟨_, rfl, xi_r _⟩
    replace hF := hF.to (rdb_e (z := z41) hz41)
    refine x_ishr C.1 (v := z41) hz41 dX12_bits_13 ?_
    refine x_iconst C.1 (n := 1) dX12_bits_14 ?_
    obtain ⟨z42, hz42, bz42⟩ : ∃ z : Int, iAnd z41 1 = z ∧ (0 ≤ z ∧ z ≤ 1) := ⟨_, rfl, iAnd_leB _ (by decide)⟩
    replace hF := hF.to (rdb_e (z := z42) hz42)
    replace hF := hF.fc bz42
    refine x_iand C.1 (v := z42) hz42 dX12_bits_15 ?_
    refine x_iadd C.1 (v := z34 + z42) (by omega) dX12_bits_16 ?_
    refine x_wrapg ?_
    intro z43 bz43 ew43
    replace hF := hF.to (rdb_e (z := z43) ew43.symm)
    refine x_istore_n C.1 (lv' := [(1, vI z43), (2, vI z33), (0, vI x0)]) dX12_bits_17 (by decide) rfl ?_
    refine x_iinc C.1 (v := z33 + 1) (lv' := [(2, vI (z33 + 1)), (1, vI z43), (0, vI x0)]) (by omega) dX12_bits_18 1 rfl (by decide) rfl ?_
    refine x_goto C.1 (tgt := 4) dX12_bits_21 (by decide) ?_
    have hmu35 : (9 - (z33 + 1)).toNat < (9 - z33).toNat := (by omega)
    exact ih35 (z33 + 1, z43) ⟨⟨by omega, by omega⟩, ⟨by omega, by omega⟩, ⟨nf35, Nat.lt_of_lt_of_le hmu35 (Nat.le_of_lt_succ hn35), hF⟩⟩ hmu35
theorem dX12_tens_0 : decode cX12_tens 0 = .ok (.lconst 1, 1) := by decide +kernel
theorem dX12_tens_1 : decode cX12_tens 1 = .ok (.lstore_n 1, 1) := by decide +kernel
theorem dX12_tens_2 : decode cX12_tens 2 = .ok (.iconst 0, 1) := by decide +kernel
theorem dX12_tens_3 : decode cX12_tens 3 = .ok (.istore_n 3, 1) := by decide +kernel
theorem dX12_tens_4 : decode cX12_tens 4 = .ok (.iload_n 3, 1) := by decide +kernel
theorem dX12_tens_5 : decode cX12_tens 5 = .ok (.iload_n 0, 1) := by decide +kernel
theorem dX12_tens_6 : decode cX12_tens 6 = .ok (.if_icmp .ge 15, 3) := by decide +kernel
theorem dX12_tens_9 : decode cX12_tens 9 = .ok (.lload_n 1, 1) := by decide +kernel
theorem dX12_tens_10 : decode cX12_tens 10 = .ok (.ldc2_w 112, 3) := by decide +kernel
theorem dX12_tens_13 : decode cX12_tens 13 = .ok (.lmul, 1) := by decide +kernel
theorem dX12_tens_14 : decode cX12_tens 14 = .ok (.lstore_n 1, 1) := by decide +kernel
theorem dX12_tens_15 : decode cX12_tens 15 = .ok (.iinc 3 1, 3) := by decide +kernel
theorem dX12_tens_18 : decode cX12_tens 18 = .ok (.goto (-14), 3) := by decide +kernel
theorem dX12_tens_21 : decode cX12_tens 21 = .ok (.lload_n 1, 1) := by decide +kernel
theorem dX12_tens_22 : decode cX12_tens 22 = .ok (.lreturn, 1) := by decide +kernel
set_option maxRecDepth 100000 in
def f_m_tens (x0 : Int) : (Int) → Prop :=
  lop2 (20) (fun rc19 (z17 : Int) (z18 : Int) => (if x0 ≤ z17 then rtn z18 else rc19 (z17 + 1) (10 * z18))) 0 1
set_option maxHeartbeats 8000000 in
set_option maxRecDepth 100000 in
theorem m_tens (l : Launch) (D : va_G) (cy : Nat → ClassId) (x0 : Int) (bx0 : 0 ≤ x0 ∧ x0 ≤ 18) : xMl l D (xTY cy) yX12_tens cX12_tens 4 (some .long) 0 0 0 0 [vI x0] [] (fun _ : Unit => []) (fun a (u : Unit) => (1 ≤ a ∧ a ≤ 1000000000000000000) ∧ (f_m_tens x0) a) := by
  refine xMl.mk (lv0 := [(0, vI x0)]) (by decide) rfl (Nat.le_of_ble_eq_true rfl) (fun p e s m below meth c A C hr hnm hAe => ?_)
  have C : xC2 p s m _ meth c D A s.heap 4 cX12_tens RX12 (xTY cy) := C
  have hF := Imp.of_eq (f_m_tens.eq_def x0)
  refine x_lconst1 C.1 dX12_tens_0 ?_
  refine x_lstore_n C.1 (lv' := [(1, vJ 1), (0, vI x0)]) dX12_tens_1 (by decide) rfl ?_
  refine x_iconst C.1 (n := 0) dX12_tens_2 ?_
  refine x_istore_n C.1 (lv' := [(3, vI 0), (1, vJ 1), (0, vI x0)]) dX12_tens_3 (by decide) rfl ?_
  obtain ⟨bd19, hbd19, hF⟩ := lop2_ex hF
  refine x_loop (I := fun x : Int × Int => match x with | (z17, z18) => (0 ≤ z17 ∧ z17 ≤ 18) ∧ (1 ≤ z18 ∧ z18 ≤ 1000000000000000000) ∧ z18 = tp z17 ∧ (∃ nf : Nat, (19 - z17).toNat < nf ∧ Imp (lop2 nf bd19 z17 z18) (f_m_tens x0))) (μ := fun x : Int × Int => match x with | (z17, z18) => (19 - z17).toNat) (wsf := fun x : Int × Int => match x with | (z17, z18) => []) (lvf := fun x : Int × Int => match x with | (z17, z18) => [(3, vI z17), (1, vJ z18), (0, vI x0)]) (fun x hI19x ih19 => ?_) (0, 1) ⟨⟨by decide, by decide⟩, ⟨by decide, by decide⟩, rfl, ⟨_, (by omega), hF⟩⟩ rfl rfl
  obtain ⟨z17, z18⟩ := x
  obtain ⟨bz17, bz18, htp, nf19, hn19, hF⟩ := hI19x
  try dsimp only
  obtain ⟨nf19, rfl⟩ : ∃ mm, nf19 = mm + 1 := ⟨nf19 - 1, (Nat.succ_pred_eq_of_pos (Nat.lt_of_le_of_lt (Nat.zero_le _) hn19)).symm⟩
  replace hF := hF.to (lop2_s hbd19)
  refine x_iload_n C.1 dX12_tens_4 0 rfl ?_
  refine x_iload_n C.1 dX12_tens_5 2 rfl ?_
  refine x_icmp_ge C.1 (tgt := 21) dX12_tens_6 (by decide) (by omega) (by omega) (fun hc21 => ?_) (fun hc21 => ?_)
  · replace hF := hF.to (if_pos hc21)
    refine x_lload_n C.1 dX12_tens_21 1 rfl ?_
    exact x_lret (S := Unit) (post := (fun a (u : Unit) => (1 ≤ a ∧ a ≤ 1000000000000000000) ∧ (f_m_tens x0) a)) (w1 := (fun _ : Unit => [])) (a := z18) C hr rfl dX12_tens_22 (by omega) () rfl ⟨⟨by omega, by omega⟩, hF _ rfl⟩
  · replace hF := hF.to (if_neg hc21)
    refine x_lload_n C.1 dX12_tens_9 1 rfl ?_
    refine x_ldc2 C.1 (n := 10) wq_X12_112 dX12_tens_10 ?_
    refine x_lmul C.1 (v := 10 * z18) (by omega) dX12_tens_13 ?_
    refine x_lstore_n C.1 (lv' := [(1, vJ (10 * z18)), (3, vI z17), (0, vI x0)]) dX12_tens_14 (by decide) rfl ?_
    refine x_iinc C.1 (v := z17 + 1) (lv' := [(3, vI (z17 + 1)), (1, vJ (10 * z18)), (0, vI x0)]) (by omega) dX12_tens_15 1 rfl (by decide) rfl ?_
    refine x_goto C.1 (tgt := 4) dX12_tens_18 (by decide) ?_
    have e1 := tp_s (k := z17) (by omega)
    have e2 := tp_b (k := z17 + 1) (by omega)
    have hmu19 : (19 - (z17 + 1)).toNat < (19 - z17).toNat := (by omega)
    exact ih19 (z17 + 1, 10 * z18) ⟨⟨by omega, by omega⟩, ⟨by omega, by omega⟩, (by rw [e1]; omega), ⟨nf19, Nat.lt_of_lt_of_le hmu19 (Nat.le_of_lt_succ hn19), hF⟩⟩ hmu19
end
section
theorem hd_yX12_has : yX12_has.cls ≠ "java/lang/invoke/MethodHandle" ∧ yX12_has.cls ≠ "java/lang/invoke/VarHandle" ∧ (parseMethodDescriptor yX12_has.desc).map (fun d => d.parameters.length) = some 2 := by decide +kernel
theorem dX12_isPlant_0 : decode cX12_isPlant 0 = .ok (.iload_n 1, 1) := by decide +kernel
theorem dX12_isPlant_1 : decode cX12_isPlant 1 = .ok (.ifCond .lt 26, 3) := by decide +kernel
theorem dX12_isPlant_4 : decode cX12_isPlant 4 = .ok (.iload_n 1, 1) := by decide +kernel
theorem dX12_isPlant_5 : decode cX12_isPlant 5 = .ok (.iconst 4, 1) := by decide +kernel
theorem dX12_isPlant_6 : decode cX12_isPlant 6 = .ok (.if_icmp .ge 21, 3) := by decide +kernel
theorem dX12_isPlant_9 : decode cX12_isPlant 9 = .ok (.aload_n 0, 1) := by decide +kernel
theorem dX12_isPlant_10 : decode cX12_isPlant 10 = .ok (.getfield 7, 3) := by decide +kernel
theorem dX12_isPlant_13 : decode cX12_isPlant 13 = .ok (.bipush 76, 2) := by decide +kernel
theorem dX12_isPlant_15 : decode cX12_isPlant 15 = .ok (.iaload, 1) := by decide +kernel
theorem dX12_isPlant_16 : decode cX12_isPlant 16 = .ok (.iload_n 1, 1) := by decide +kernel
theorem dX12_isPlant_17 : decode cX12_isPlant 17 = .ok (.invokestatic 118, 3) := by decide +kernel
theorem dX12_isPlant_20 : decode cX12_isPlant 20 = .ok (.ifCond .eq 7, 3) := by decide +kernel
theorem dX12_isPlant_23 : decode cX12_isPlant 23 = .ok (.iconst 1, 1) := by decide +kernel
theorem dX12_isPlant_24 : decode cX12_isPlant 24 = .ok (.goto 4, 3) := by decide +kernel
theorem dX12_isPlant_27 : decode cX12_isPlant 27 = .ok (.iconst 0, 1) := by decide +kernel
theorem dX12_isPlant_28 : decode cX12_isPlant 28 = .ok (.ireturn, 1) := by decide +kernel
set_option maxRecDepth 100000 in
def f_m_isPlant (x1 : Int) (V : Nat → Nat → Int) (J : Nat → Nat → Int) (Rr : Nat → Nat → Nat) : (Int) → Prop :=
  (if x1 < 0 then rtn 0 else (if 4 ≤ x1 then rtn 0 else rdb (V 1 76) fun z3 => calR (f_m_has z3 x1) fun z4 => fct (0 ≤ z4 ∧ z4 ≤ 1) <| (if z4 = 0 then rtn 0 else rtn 1)))
set_option maxHeartbeats 8000000 in
set_option maxRecDepth 100000 in
theorem m_isPlant (l : Launch) (D : va_G) (cy : Nat → ClassId) (ad : Nat → Nat) (G : Nat → Nat → Int) (V J : Nat → Nat → Int) (Rr : Nat → Nat → Nat) (hI : MI G V) (hJ : VJ J) (hR : MR Rr) (x1 : Int) (bx1 : -2147483648 ≤ x1 ∧ x1 ≤ 2147483647) : xMi l D (xTY cy) yX12_isPlant cX12_isPlant 2 (some .boolean) 1 21 0 0 [.ref (ad 0), vI x1] (MW cy ad V J Rr) (fun _ : Unit => MW cy ad V J Rr) (fun a (u : Unit) => Sp a ((0 ≤ x1 ∧ x1 ≤ 3)) ∧ (f_m_isPlant x1 V J Rr) a) := by
  refine xMi.mk (lv0 := [(0, .ref (ad 0)), (1, vI x1)]) (by decide) rfl (Nat.le_of_ble_eq_true rfl) (fun p e s m below meth c A C hr hnm hAe => ?_)
  have C : xC2 p s m _ meth c D A s.heap 2 cX12_isPlant RX12 (xTY cy) := C
  have hF := Imp.of_eq (f_m_isPlant.eq_def x1 V J Rr)
  refine x_iload_n C.1 dX12_isPlant_0 1 rfl ?_
  refine x_if_lt C.1 (tgt := 27) dX12_isPlant_1 (by decide) (by omega) (fun hc1 => ?_) (fun hc1 => ?_)
  · replace hF := hF.to (if_pos hc1)
    refine x_iconst C.1 (n := 0) dX12_isPlant_27 ?_
    exact x_zret (S := Unit) (post := (fun a (u : Unit) => Sp a ((0 ≤ x1 ∧ x1 ≤ 3)) ∧ (f_m_isPlant x1 V J Rr) a)) (w1 := (fun _ : Unit => MW cy ad V J Rr)) (a := 0) C hr rfl dX12_isPlant_28 (by decide) () rfl ⟨Or.inl rfl, hF _ rfl⟩
  · replace hF := hF.to (if_neg hc1)
    refine x_iload_n C.1 dX12_isPlant_4 1 rfl ?_
    refine x_iconst C.1 (n := 4) dX12_isPlant_5 ?_
    refine x_icmp_ge C.1 (tgt := 27) dX12_isPlant_6 (by decide) (by omega) (by decide) (fun hc2 => ?_) (fun hc2 => ?_)
    · replace hF := hF.to (if_pos hc2)
      refine x_iconst C.1 (n := 0) dX12_isPlant_27 ?_
      exact x_zret (S := Unit) (post := (fun a (u : Unit) => Sp a ((0 ≤ x1 ∧ x1 ≤ 3)) ∧ (f_m_isPlant x1 V J Rr) a)) (w1 := (fun _ : Unit => MW cy ad V J Rr)) (a := 0) C hr rfl dX12_isPlant_28 (by decide) () rfl ⟨Or.inl rfl, hF _ rfl⟩
    · replace hF := hF.to (if_neg hc2)
      refine x_aload_n C.1 dX12_isPlant_9 0 rfl ?_
      refine x_getA C (N := 33) (i := 0) (by decide) rfl vc_X12 wx_X12 0 (by decide) wf_X12_7 (a := 1) rfl dX12_isPlant_10 ?_
      refine x_bipush C.1 (n := 76) dX12_isPlant_13 ?_
      obtain ⟨z3, ez3, bz3⟩ := hI.rd 1 76 (x := -2147483648) (y := 2147483647) (rgN_81 (Or.inl rfl) (by decide))
      replace hF := hF.to (rdb_e (z := z3) ez3)
      refine x_iald C (N := 33) (i := 1) (q := 76) (by decide) rfl (by decide) (by decide) dX12_isPlant_15 (a := z3) ez3 ?_
      refine x_iload_n C.1 dX12_isPlant_16 1 rfl ?_
      refine x_callSi C (As := [vI z3, vI x1]) (rest := []) (m_has l D cy z3 ⟨by omega, by omega⟩ x1 ⟨by omega, by omega⟩) (l1 := []) (l2 := _) rfl (w2 := fun _ => _) (fun _ => rfl) rfl wm_yX12_has wn_X12 wl_X12_118 wi_yX12_has hd_yX12_has rfl ⟨Nat.le_of_ble_eq_true rfl, Nat.le_of_ble_eq_true rfl⟩ (Nat.le_of_ble_eq_true rfl) ⟨Nat.le_of_ble_eq_true rfl, Nat.le_of_ble_eq_true rfl⟩ dX12_isPlant_17 (fun z4 u4 bz4 h4 => ?_)
      obtain ⟨bq4, hx4_0, hFc4⟩ := h4
      replace hF := calR_i hF hFc4
      replace hF := hF.fc bq4
      refine x_if_eq C.1 (tgt := 27) dX12_isPlant_20 (by decide) (by omega) (fun hc5 => ?_) (fun hc5 => ?_)
      · replace hF := hF.to (if_pos hc5)
        refine x_iconst C.1 (n := 0) dX12_isPlant_27 ?_
        exact x_zret (S := Unit) (post := (fun a (u : Unit) => Sp a ((0 ≤ x1 ∧ x1 ≤ 3)) ∧ (f_m_isPlant x1 V J Rr) a)) (w1 := (fun _ : Unit => MW cy ad V J Rr)) (a := 0) C hr rfl dX12_isPlant_28 (by decide) () rfl ⟨Or.inl rfl, hF _ rfl⟩
      · replace hF := hF.to (if_neg hc5)
        have hon6 := Sq.on hx4_0 (by omega)
        refine x_iconst C.1 (n := 1) dX12_isPlant_23 ?_
        refine x_goto C.1 (tgt := 28) dX12_isPlant_24 (by decide) ?_
        exact x_zret (S := Unit) (post := (fun a (u : Unit) => Sp a ((0 ≤ x1 ∧ x1 ≤ 3)) ∧ (f_m_isPlant x1 V J Rr) a)) (w1 := (fun _ : Unit => MW cy ad V J Rr)) (a := 1) C hr rfl dX12_isPlant_28 (by decide) () rfl ⟨Or.inr ⟨rfl, by omega⟩, hF _ rfl⟩
theorem hd_yX12_isPlant : yX12_isPlant.cls ≠ "java/lang/invoke/MethodHandle" ∧ yX12_isPlant.cls ≠ "java/lang/invoke/VarHandle" ∧ (parseMethodDescriptor yX12_isPlant.desc).map (fun d => d.parameters.length) = some 1 := by decide +kernel
theorem dX12_lives_0 : decode cX12_lives 0 = .ok (.aload_n 0, 1) := by decide +kernel
theorem dX12_lives_1 : decode cX12_lives 1 = .ok (.iload_n 1, 1) := by decide +kernel
theorem dX12_lives_2 : decode cX12_lives 2 = .ok (.invokevirtual 122, 3) := by decide +kernel
theorem dX12_lives_5 : decode cX12_lives 5 = .ok (.ifCond .eq 21, 3) := by decide +kernel
theorem dX12_lives_8 : decode cX12_lives 8 = .ok (.aload_n 0, 1) := by decide +kernel
theorem dX12_lives_9 : decode cX12_lives 9 = .ok (.getfield 7, 3) := by decide +kernel
theorem dX12_lives_12 : decode cX12_lives 12 = .ok (.bipush 77, 2) := by decide +kernel
theorem dX12_lives_14 : decode cX12_lives 14 = .ok (.iaload, 1) := by decide +kernel
theorem dX12_lives_15 : decode cX12_lives 15 = .ok (.iload_n 1, 1) := by decide +kernel
theorem dX12_lives_16 : decode cX12_lives 16 = .ok (.invokestatic 118, 3) := by decide +kernel
theorem dX12_lives_19 : decode cX12_lives 19 = .ok (.ifCond .ne 7, 3) := by decide +kernel
theorem dX12_lives_22 : decode cX12_lives 22 = .ok (.iconst 1, 1) := by decide +kernel
theorem dX12_lives_23 : decode cX12_lives 23 = .ok (.goto 4, 3) := by decide +kernel
theorem dX12_lives_26 : decode cX12_lives 26 = .ok (.iconst 0, 1) := by decide +kernel
theorem dX12_lives_27 : decode cX12_lives 27 = .ok (.ireturn, 1) := by decide +kernel
set_option maxRecDepth 100000 in
def f_m_lives (x1 : Int) (V : Nat → Nat → Int) (J : Nat → Nat → Int) (Rr : Nat → Nat → Nat) : (Int) → Prop :=
  calR (f_m_isPlant x1 V J Rr) fun z1 => fct (0 ≤ z1 ∧ z1 ≤ 1) <| (if z1 = 0 then rtn 0 else rdb (V 1 77) fun z4 => calR (f_m_has z4 x1) fun z5 => fct (0 ≤ z5 ∧ z5 ≤ 1) <| (if ¬ z5 = 0 then rtn 0 else rtn 1))
set_option maxHeartbeats 8000000 in
set_option maxRecDepth 100000 in
theorem m_lives (l : Launch) (D : va_G) (cy : Nat → ClassId) (ad : Nat → Nat) (G : Nat → Nat → Int) (V J : Nat → Nat → Int) (Rr : Nat → Nat → Nat) (hI : MI G V) (hJ : VJ J) (hR : MR Rr) (x1 : Int) (bx1 : -2147483648 ≤ x1 ∧ x1 ≤ 2147483647) : xMi l D (xTY cy) yX12_lives cX12_lives 2 (some .boolean) 2 42 0 0 [.ref (ad 0), vI x1] (MW cy ad V J Rr) (fun _ : Unit => MW cy ad V J Rr) (fun a (u : Unit) => (0 ≤ a ∧ a ≤ 1) ∧ (Sp a ((0 ≤ x1 ∧ x1 ≤ 3) ∧ V 1 (12 + x1.toNat) ≤ 8 ∧ V 1 (16 + x1.toNat) ≤ 8)) ∧ (f_m_lives x1 V J Rr) a) := by
  refine xMi.mk (lv0 := [(0, .ref (ad 0)), (1, vI x1)]) (by decide) rfl (Nat.le_of_ble_eq_true rfl) (fun p e s m below meth c A C hr hnm hAe => ?_)
  have C : xC2 p s m _ meth c D A s.heap 2 cX12_lives RX12 (xTY cy) := C
  have hF := Imp.of_eq (f_m_lives.eq_def x1 V J Rr)
  refine x_aload_n C.1 dX12_lives_0 0 rfl ?_
  refine x_iload_n C.1 dX12_lives_1 1 rfl ?_
  refine x_callVi C (As := [vI x1]) (rest := []) 0 (xw_at (N := 33) (i := 0) (by decide) rfl) vc_X12 (m_isPlant l D cy ad G V J Rr hI hJ hR x1 ⟨by omega, by omega⟩) (l1 := []) (l2 := []) (List.append_nil _).symm (w2 := fun _ => MW cy ad V J Rr) (fun _ => List.append_nil _) rfl wm_yX12_isPlant wn_X12 wl_X12_122 wi_yX12_isPlant we_yX12_isPlant hd_yX12_isPlant rfl ⟨Nat.le_of_ble_eq_true rfl, Nat.le_of_ble_eq_true rfl⟩ (Nat.le_of_ble_eq_true rfl) ⟨Nat.le_of_ble_eq_true rfl, Nat.le_of_ble_eq_true rfl⟩ dX12_lives_2 (fun z1 u1 bz1 h1 => ?_)
  obtain ⟨hon1, hFc1⟩ := h1
  replace hF := calR_i hF hFc1
  replace hF := hF.fc hon1.r
  have bq1 := Sp.r hon1
  refine x_if_eq C.1 (tgt := 26) dX12_lives_5 (by decide) (by omega) (fun hc2 => ?_) (fun hc2 => ?_)
  · replace hF := hF.to (if_pos hc2)
    refine x_iconst C.1 (n := 0) dX12_lives_26 ?_
    exact x_zret (S := Unit) (post := (fun a (u : Unit) => (0 ≤ a ∧ a ≤ 1) ∧ (Sp a ((0 ≤ x1 ∧ x1 ≤ 3) ∧ V 1 (12 + x1.toNat) ≤ 8 ∧ V 1 (16 + x1.toNat) ≤ 8)) ∧ (f_m_lives x1 V J Rr) a)) (w1 := (fun _ : Unit => MW cy ad V J Rr)) (a := 0) C hr rfl dX12_lives_27 (by decide) () rfl ⟨⟨by decide, by decide⟩, (Or.inl rfl), hF _ rfl⟩
  · replace hF := hF.to (if_neg hc2)
    have hon3 := Sp.on hon1 (by omega)
    refine x_aload_n C.1 dX12_lives_8 0 rfl ?_
    refine x_getA C (N := 33) (i := 0) (by decide) rfl vc_X12 wx_X12 0 (by decide) wf_X12_7 (a := 1) rfl dX12_lives_9 ?_
    refine x_bipush C.1 (n := 77) dX12_lives_12 ?_
    obtain ⟨z4, ez4, bz4⟩ := hI.rd 1 77 (x := -2147483648) (y := 2147483647) (rgN_81 (Or.inl rfl) (by decide))
    replace hF := hF.to (rdb_e (z := z4) ez4)
    refine x_iald C (N := 33) (i := 1) (q := 77) (by decide) rfl (by decide) (by decide) dX12_lives_14 (a := z4) ez4 ?_
    refine x_iload_n C.1 dX12_lives_15 1 rfl ?_
    refine x_callSi C (As := [vI z4, vI x1]) (rest := []) (m_has l D cy z4 ⟨by omega, by omega⟩ x1 ⟨by omega, by omega⟩) (l1 := []) (l2 := _) rfl (w2 := fun _ => _) (fun _ => rfl) rfl wm_yX12_has wn_X12 wl_X12_118 wi_yX12_has hd_yX12_has rfl ⟨Nat.le_of_ble_eq_true rfl, Nat.le_of_ble_eq_true rfl⟩ (Nat.le_of_ble_eq_true rfl) ⟨Nat.le_of_ble_eq_true rfl, Nat.le_of_ble_eq_true rfl⟩ dX12_lives_16 (fun z5 u5 bz5 h5 => ?_)
    obtain ⟨bq5, hx5_0, hFc5⟩ := h5
    replace hF := calR_i hF hFc5
    replace hF := hF.fc bq5
    refine x_if_ne C.1 (tgt := 26) dX12_lives_19 (by decide) (by omega) (fun hc6 => ?_) (fun hc6 => ?_)
    · replace hF := hF.to (if_pos hc6)
      have hon7 := Sq.on hx5_0 (by omega)
      refine x_iconst C.1 (n := 0) dX12_lives_26 ?_
      exact x_zret (S := Unit) (post := (fun a (u : Unit) => (0 ≤ a ∧ a ≤ 1) ∧ (Sp a ((0 ≤ x1 ∧ x1 ≤ 3) ∧ V 1 (12 + x1.toNat) ≤ 8 ∧ V 1 (16 + x1.toNat) ≤ 8)) ∧ (f_m_lives x1 V J Rr) a)) (w1 := (fun _ : Unit => MW cy ad V J Rr)) (a := 0) C hr rfl dX12_lives_27 (by decide) () rfl ⟨⟨by decide, by decide⟩, (Or.inl rfl), hF _ rfl⟩
    · replace hF := hF.to (if_neg (fun hh => hh hc6))
      have hof8 := Sq.off hx5_0 (by omega)
      refine x_iconst C.1 (n := 1) dX12_lives_22 ?_
      refine x_goto C.1 (tgt := 27) dX12_lives_23 (by decide) ?_
      exact x_zret (S := Unit) (post := (fun a (u : Unit) => (0 ≤ a ∧ a ≤ 1) ∧ (Sp a ((0 ≤ x1 ∧ x1 ≤ 3) ∧ V 1 (12 + x1.toNat) ≤ 8 ∧ V 1 (16 + x1.toNat) ≤ 8)) ∧ (f_m_lives x1 V J Rr) a)) (w1 := (fun _ : Unit => MW cy ad V J Rr)) (a := 1) C hr rfl dX12_lives_27 (by decide) () rfl ⟨⟨by decide, by decide⟩, (Or.inr ⟨rfl, ⟨by omega, by omega⟩, MI.al hI (by omega) (by assumption) (by assumption)⟩), hF _ rfl⟩
theorem dX12_isPerson_0 : decode cX12_isPerson 0 = .ok (.iload_n 1, 1) := by decide +kernel
theorem dX12_isPerson_1 : decode cX12_isPerson 1 = .ok (.ifCond .lt 27, 3) := by decide +kernel
theorem dX12_isPerson_4 : decode cX12_isPerson 4 = .ok (.iload_n 1, 1) := by decide +kernel
theorem dX12_isPerson_5 : decode cX12_isPerson 5 = .ok (.bipush 8, 2) := by decide +kernel
theorem dX12_isPerson_7 : decode cX12_isPerson 7 = .ok (.if_icmp .ge 21, 3) := by decide +kernel
theorem dX12_isPerson_10 : decode cX12_isPerson 10 = .ok (.aload_n 0, 1) := by decide +kernel
theorem dX12_isPerson_11 : decode cX12_isPerson 11 = .ok (.getfield 7, 3) := by decide +kernel
theorem dX12_isPerson_14 : decode cX12_isPerson 14 = .ok (.bipush 78, 2) := by decide +kernel
theorem dX12_isPerson_16 : decode cX12_isPerson 16 = .ok (.iaload, 1) := by decide +kernel
theorem dX12_isPerson_17 : decode cX12_isPerson 17 = .ok (.iload_n 1, 1) := by decide +kernel
theorem dX12_isPerson_18 : decode cX12_isPerson 18 = .ok (.invokestatic 118, 3) := by decide +kernel
theorem dX12_isPerson_21 : decode cX12_isPerson 21 = .ok (.ifCond .eq 7, 3) := by decide +kernel
theorem dX12_isPerson_24 : decode cX12_isPerson 24 = .ok (.iconst 1, 1) := by decide +kernel
theorem dX12_isPerson_25 : decode cX12_isPerson 25 = .ok (.goto 4, 3) := by decide +kernel
theorem dX12_isPerson_28 : decode cX12_isPerson 28 = .ok (.iconst 0, 1) := by decide +kernel
theorem dX12_isPerson_29 : decode cX12_isPerson 29 = .ok (.ireturn, 1) := by decide +kernel
set_option maxRecDepth 100000 in
def f_m_isPerson (x1 : Int) (V : Nat → Nat → Int) (J : Nat → Nat → Int) (Rr : Nat → Nat → Nat) : (Int) → Prop :=
  (if x1 < 0 then rtn 0 else (if 8 ≤ x1 then rtn 0 else rdb (V 1 78) fun z3 => calR (f_m_has z3 x1) fun z4 => fct (0 ≤ z4 ∧ z4 ≤ 1) <| (if z4 = 0 then rtn 0 else rtn 1)))
set_option maxHeartbeats 8000000 in
set_option maxRecDepth 100000 in
theorem m_isPerson (l : Launch) (D : va_G) (cy : Nat → ClassId) (ad : Nat → Nat) (G : Nat → Nat → Int) (V J : Nat → Nat → Int) (Rr : Nat → Nat → Nat) (hI : MI G V) (hJ : VJ J) (hR : MR Rr) (x1 : Int) (bx1 : -2147483648 ≤ x1 ∧ x1 ≤ 2147483647) : xMi l D (xTY cy) yX12_isPerson cX12_isPerson 2 (some .boolean) 1 21 0 0 [.ref (ad 0), vI x1] (MW cy ad V J Rr) (fun _ : Unit => MW cy ad V J Rr) (fun a (u : Unit) => Sp a ((0 ≤ x1 ∧ x1 ≤ 7)) ∧ (f_m_isPerson x1 V J Rr) a) := by
  refine xMi.mk (lv0 := [(0, .ref (ad 0)), (1, vI x1)]) (by decide) rfl (Nat.le_of_ble_eq_true rfl) (fun p e s m below meth c A C hr hnm hAe => ?_)
  have C : xC2 p s m _ meth c D A s.heap 2 cX12_isPerson RX12 (xTY cy) := C
  have hF := Imp.of_eq (f_m_isPerson.eq_def x1 V J Rr)
  refine x_iload_n C.1 dX12_isPerson_0 1 rfl ?_
  refine x_if_lt C.1 (tgt := 28) dX12_isPerson_1 (by decide) (by omega) (fun hc1 => ?_) (fun hc1 => ?_)
  · replace hF := hF.to (if_pos hc1)
    refine x_iconst C.1 (n := 0) dX12_isPerson_28 ?_
    exact x_zret (S := Unit) (post := (fun a (u : Unit) => Sp a ((0 ≤ x1 ∧ x1 ≤ 7)) ∧ (f_m_isPerson x1 V J Rr) a)) (w1 := (fun _ : Unit => MW cy ad V J Rr)) (a := 0) C hr rfl dX12_isPerson_29 (by decide) () rfl ⟨Or.inl rfl, hF _ rfl⟩
  · replace hF := hF.to (if_neg hc1)
    refine x_iload_n C.1 dX12_isPerson_4 1 rfl ?_
    refine x_bipush C.1 (n := 8) dX12_isPerson_5 ?_
    refine x_icmp_ge C.1 (tgt := 28) dX12_isPerson_7 (by decide) (by omega) (by decide) (fun hc2 => ?_) (fun hc2 => ?_)
    · replace hF := hF.to (if_pos hc2)
      refine x_iconst C.1 (n := 0) dX12_isPerson_28 ?_
      exact x_zret (S := Unit) (post := (fun a (u : Unit) => Sp a ((0 ≤ x1 ∧ x1 ≤ 7)) ∧ (f_m_isPerson x1 V J Rr) a)) (w1 := (fun _ : Unit => MW cy ad V J Rr)) (a := 0) C hr rfl dX12_isPerson_29 (by decide) () rfl ⟨Or.inl rfl, hF _ rfl⟩
    · replace hF := hF.to (if_neg hc2)
      refine x_aload_n C.1 dX12_isPerson_10 0 rfl ?_
      refine x_getA C (N := 33) (i := 0) (by decide) rfl vc_X12 wx_X12 0 (by decide) wf_X12_7 (a := 1) rfl dX12_isPerson_11 ?_
      refine x_bipush C.1 (n := 78) dX12_isPerson_14 ?_
      obtain ⟨z3, ez3, bz3⟩ := hI.rd 1 78 (x := -2147483648) (y := 2147483647) (rgN_81 (Or.inl rfl) (by decide))
      replace hF := hF.to (rdb_e (z := z3) ez3)
      refine x_iald C (N := 33) (i := 1) (q := 78) (by decide) rfl (by decide) (by decide) dX12_isPerson_16 (a := z3) ez3 ?_
      refine x_iload_n C.1 dX12_isPerson_17 1 rfl ?_
      refine x_callSi C (As := [vI z3, vI x1]) (rest := []) (m_has l D cy z3 ⟨by omega, by omega⟩ x1 ⟨by omega, by omega⟩) (l1 := []) (l2 := _) rfl (w2 := fun _ => _) (fun _ => rfl) rfl wm_yX12_has wn_X12 wl_X12_118 wi_yX12_has hd_yX12_has rfl ⟨Nat.le_of_ble_eq_true rfl, Nat.le_of_ble_eq_true rfl⟩ (Nat.le_of_ble_eq_true rfl) ⟨Nat.le_of_ble_eq_true rfl, Nat.le_of_ble_eq_true rfl⟩ dX12_isPerson_18 (fun z4 u4 bz4 h4 => ?_)
      obtain ⟨bq4, hx4_0, hFc4⟩ := h4
      replace hF := calR_i hF hFc4
      replace hF := hF.fc bq4
      refine x_if_eq C.1 (tgt := 28) dX12_isPerson_21 (by decide) (by omega) (fun hc5 => ?_) (fun hc5 => ?_)
      · replace hF := hF.to (if_pos hc5)
        refine x_iconst C.1 (n := 0) dX12_isPerson_28 ?_
        exact x_zret (S := Unit) (post := (fun a (u : Unit) => Sp a ((0 ≤ x1 ∧ x1 ≤ 7)) ∧ (f_m_isPerson x1 V J Rr) a)) (w1 := (fun _ : Unit => MW cy ad V J Rr)) (a := 0) C hr rfl dX12_isPerson_29 (by decide) () rfl ⟨Or.inl rfl, hF _ rfl⟩
      · replace hF := hF.to (if_neg hc5)
        have hon6 := Sq.on hx4_0 (by omega)
        refine x_iconst C.1 (n := 1) dX12_isPerson_24 ?_
        refine x_goto C.1 (tgt := 29) dX12_isPerson_25 (by decide) ?_
        exact x_zret (S := Unit) (post := (fun a (u : Unit) => Sp a ((0 ≤ x1 ∧ x1 ≤ 7)) ∧ (f_m_isPerson x1 V J Rr) a)) (w1 := (fun _ : Unit => MW cy ad V J Rr)) (a := 1) C hr rfl dX12_isPerson_29 (by decide) () rfl ⟨Or.inr ⟨rfl, by omega⟩, hF _ rfl⟩
theorem hd_yX12_in : yX12_in.cls ≠ "java/lang/invoke/MethodHandle" ∧ yX12_in.cls ≠ "java/lang/invoke/VarHandle" ∧ (parseMethodDescriptor yX12_in.desc).map (fun d => d.parameters.length) = some 3 := by decide +kernel
theorem dX12_person_0 : decode cX12_person 0 = .ok (.iload_n 1, 1) := by decide +kernel
theorem dX12_person_1 : decode cX12_person 1 = .ok (.iconst 0, 1) := by decide +kernel
theorem dX12_person_2 : decode cX12_person 2 = .ok (.bipush 7, 2) := by decide +kernel
theorem dX12_person_4 : decode cX12_person 4 = .ok (.invokestatic 126, 3) := by decide +kernel
theorem dX12_person_7 : decode cX12_person 7 = .ok (.ifCond .eq 22, 3) := by decide +kernel
theorem dX12_person_10 : decode cX12_person 10 = .ok (.iload_n 2, 1) := by decide +kernel
theorem dX12_person_11 : decode cX12_person 11 = .ok (.iconst 0, 1) := by decide +kernel
theorem dX12_person_12 : decode cX12_person 12 = .ok (.bipush 10, 2) := by decide +kernel
theorem dX12_person_14 : decode cX12_person 14 = .ok (.invokestatic 126, 3) := by decide +kernel
theorem dX12_person_17 : decode cX12_person 17 = .ok (.ifCond .eq 12, 3) := by decide +kernel
theorem dX12_person_20 : decode cX12_person 20 = .ok (.iload_n 3, 1) := by decide +kernel
theorem dX12_person_21 : decode cX12_person 21 = .ok (.iconst 0, 1) := by decide +kernel
theorem dX12_person_22 : decode cX12_person 22 = .ok (.iconst 3, 1) := by decide +kernel
theorem dX12_person_23 : decode cX12_person 23 = .ok (.invokestatic 126, 3) := by decide +kernel
theorem dX12_person_26 : decode cX12_person 26 = .ok (.ifCond .ne 5, 3) := by decide +kernel
theorem dX12_person_29 : decode cX12_person 29 = .ok (.iconst 0, 1) := by decide +kernel
theorem dX12_person_30 : decode cX12_person 30 = .ok (.ireturn, 1) := by decide +kernel
theorem dX12_person_31 : decode cX12_person 31 = .ok (.aload_n 0, 1) := by decide +kernel
theorem dX12_person_32 : decode cX12_person 32 = .ok (.getfield 7, 3) := by decide +kernel
theorem dX12_person_35 : decode cX12_person 35 = .ok (.bipush 78, 2) := by decide +kernel
theorem dX12_person_37 : decode cX12_person 37 = .ok (.aload_n 0, 1) := by decide +kernel
theorem dX12_person_38 : decode cX12_person 38 = .ok (.getfield 7, 3) := by decide +kernel
theorem dX12_person_41 : decode cX12_person 41 = .ok (.bipush 78, 2) := by decide +kernel
theorem dX12_person_43 : decode cX12_person 43 = .ok (.iaload, 1) := by decide +kernel
theorem dX12_person_44 : decode cX12_person 44 = .ok (.iconst 1, 1) := by decide +kernel
theorem dX12_person_45 : decode cX12_person 45 = .ok (.iload_n 1, 1) := by decide +kernel
theorem dX12_person_46 : decode cX12_person 46 = .ok (.ishl, 1) := by decide +kernel
theorem dX12_person_47 : decode cX12_person 47 = .ok (.ior, 1) := by decide +kernel
theorem dX12_person_48 : decode cX12_person 48 = .ok (.iastore, 1) := by decide +kernel
theorem dX12_person_49 : decode cX12_person 49 = .ok (.aload_n 0, 1) := by decide +kernel
theorem dX12_person_50 : decode cX12_person 50 = .ok (.getfield 7, 3) := by decide +kernel
theorem dX12_person_53 : decode cX12_person 53 = .ok (.bipush 52, 2) := by decide +kernel
theorem dX12_person_55 : decode cX12_person 55 = .ok (.iload_n 1, 1) := by decide +kernel
theorem dX12_person_56 : decode cX12_person 56 = .ok (.iadd, 1) := by decide +kernel
theorem dX12_person_57 : decode cX12_person 57 = .ok (.iload_n 2, 1) := by decide +kernel
theorem dX12_person_58 : decode cX12_person 58 = .ok (.iastore, 1) := by decide +kernel
theorem dX12_person_59 : decode cX12_person 59 = .ok (.aload_n 0, 1) := by decide +kernel
theorem dX12_person_60 : decode cX12_person 60 = .ok (.getfield 7, 3) := by decide +kernel
theorem dX12_person_63 : decode cX12_person 63 = .ok (.bipush 60, 2) := by decide +kernel
theorem dX12_person_65 : decode cX12_person 65 = .ok (.iload_n 1, 1) := by decide +kernel
theorem dX12_person_66 : decode cX12_person 66 = .ok (.iadd, 1) := by decide +kernel
theorem dX12_person_67 : decode cX12_person 67 = .ok (.iload_n 3, 1) := by decide +kernel
theorem dX12_person_68 : decode cX12_person 68 = .ok (.iastore, 1) := by decide +kernel
theorem dX12_person_69 : decode cX12_person 69 = .ok (.aload_n 0, 1) := by decide +kernel
theorem dX12_person_70 : decode cX12_person 70 = .ok (.getfield 7, 3) := by decide +kernel
theorem dX12_person_73 : decode cX12_person 73 = .ok (.bipush 68, 2) := by decide +kernel
theorem dX12_person_75 : decode cX12_person 75 = .ok (.iload_n 1, 1) := by decide +kernel
theorem dX12_person_76 : decode cX12_person 76 = .ok (.iadd, 1) := by decide +kernel
theorem dX12_person_77 : decode cX12_person 77 = .ok (.iconst 0, 1) := by decide +kernel
theorem dX12_person_78 : decode cX12_person 78 = .ok (.iastore, 1) := by decide +kernel
theorem dX12_person_79 : decode cX12_person 79 = .ok (.iconst 1, 1) := by decide +kernel
theorem dX12_person_80 : decode cX12_person 80 = .ok (.ireturn, 1) := by decide +kernel
set_option maxRecDepth 100000 in
def f_m_person (x1 : Int) (x2 : Int) (x3 : Int) (V : Nat → Nat → Int) (J : Nat → Nat → Int) (Rr : Nat → Nat → Nat) : (Int × (Nat → Nat → Int)) → Prop :=
  calR (f_m_in x1 0 7) fun z1 => fct (0 ≤ z1 ∧ z1 ≤ 1) <| (if z1 = 0 then rtn (0, V) else calR (f_m_in x2 0 10) fun z5 => fct (0 ≤ z5 ∧ z5 ≤ 1) <| (if z5 = 0 then rtn (0, V) else calR (f_m_in x3 0 3) fun z9 => fct (0 ≤ z9 ∧ z9 ≤ 1) <| (if ¬ z9 = 0 then rdb (V 1 78) fun z12 => rdb (iShl 1 x1) fun z13 => rdb (iOr z12 z13) fun z14 => rdb (up2 V 1 78 z14) fun V15 => rdb (up2 V15 1 ((x1 + 52).toNat) x2) fun V16 => rdb (up2 V16 1 ((x1 + 60).toNat) x3) fun V17 => rdb (up2 V17 1 ((x1 + 68).toNat) 0) fun V18 => rtn (1, V18) else rtn (0, V))))
set_option maxHeartbeats 8000000 in
set_option maxRecDepth 100000 in
theorem m_person (l : Launch) (D : va_G) (cy : Nat → ClassId) (ad : Nat → Nat) (G : Nat → Nat → Int) (V J : Nat → Nat → Int) (Rr : Nat → Nat → Nat) (hI : MI G V) (hJ : VJ J) (hR : MR Rr) (x1 : Int) (bx1 : -2147483648 ≤ x1 ∧ x1 ≤ 2147483647) (x2 : Int) (bx2 : -2147483648 ≤ x2 ∧ x2 ≤ 2147483647) (x3 : Int) (bx3 : -2147483648 ≤ x3 ∧ x3 ≤ 2147483647) : xMi l D (xTY cy) yX12_person cX12_person 4 (some .boolean) 1 22 0 0 [.ref (ad 0), vI x1, vI x2, vI x3] (MW cy ad V J Rr) (fun u : Nat → Nat → Int => MW cy ad u J Rr) (fun a (u : Nat → Nat → Int) => MI G u ∧ ((a = 1 ∧ 0 ≤ x1 ∧ x1 < 8 ∧ 0 ≤ x2 ∧ x2 ≤ 10 ∧ 0 ≤ x3 ∧ x3 < 4) ∨ (a = 0 ∧ ¬ (0 ≤ x1 ∧ x1 < 8 ∧ 0 ≤ x2 ∧ x2 ≤ 10 ∧ 0 ≤ x3 ∧ x3 < 4))) ∧ FBm 36893488147419103232 V u ∧ (f_m_person x1 x2 x3 V J Rr) (a, u)) := by
  refine xMi.mk (lv0 := [(0, .ref (ad 0)), (1, vI x1), (2, vI x2), (3, vI x3)]) (by decide) rfl (Nat.le_of_ble_eq_true rfl) (fun p e s m below meth c A C hr hnm hAe => ?_)
  have C : xC2 p s m _ meth c D A s.heap 4 cX12_person RX12 (xTY cy) := C
  have hB : FBm 36893488147419103232 V V := FBm.rf _ _
  have hF := Imp.of_eq (f_m_person.eq_def x1 x2 x3 V J Rr)
  refine x_iload_n C.1 dX12_person_0 1 rfl ?_
  refine x_iconst C.1 (n := 0) dX12_person_1 ?_
  refine x_bipush C.1 (n := 7) dX12_person_2 ?_
  refine x_callSi C (As := [vI x1, vI 0, vI 7]) (rest := []) (m_in l D cy x1 ⟨by omega, by omega⟩ 0 ⟨by decide, by decide⟩ 7 ⟨by decide, by decide⟩) (l1 := []) (l2 := _) rfl (w2 := fun _ => _) (fun _ => rfl) rfl wm_yX12_in wn_X12 wl_X12_126 wi_yX12_in hd_yX12_in rfl ⟨Nat.le_of_ble_eq_true rfl, Nat.le_of_ble_eq_true rfl⟩ (Nat.le_of_ble_eq_true rfl) ⟨Nat.le_of_ble_eq_true rfl, Nat.le_of_ble_eq_true rfl⟩ dX12_person_4 (fun z1 u1 bz1 h1 => ?_)
  obtain ⟨bq1, hx1_0, hFc1⟩ := h1
  replace hF := calR_i hF hFc1
  replace hF := hF.fc bq1
  refine x_if_eq C.1 (tgt := 29) dX12_person_7 (by decide) (by omega) (fun hc2 => ?_) (fun hc2 => ?_)
  · replace hF := hF.to (if_pos hc2)
    have hof3 := Sq.off hx1_0 (by omega)
    refine x_iconst C.1 (n := 0) dX12_person_29 ?_
    exact x_zret (S := (Nat → Nat → Int)) (post := (fun a (u : Nat → Nat → Int) => MI G u ∧ ((a = 1 ∧ 0 ≤ x1 ∧ x1 < 8 ∧ 0 ≤ x2 ∧ x2 ≤ 10 ∧ 0 ≤ x3 ∧ x3 < 4) ∨ (a = 0 ∧ ¬ (0 ≤ x1 ∧ x1 < 8 ∧ 0 ≤ x2 ∧ x2 ≤ 10 ∧ 0 ≤ x3 ∧ x3 < 4))) ∧ FBm 36893488147419103232 V u ∧ (f_m_person x1 x2 x3 V J Rr) (a, u))) (w1 := (fun u : Nat → Nat → Int => MW cy ad u J Rr)) (a := 0) C hr rfl dX12_person_30 (by decide) V rfl ⟨hI, (by omega), hB, hF _ rfl⟩
  · replace hF := hF.to (if_neg hc2)
    have hon4 := Sq.on hx1_0 (by omega)
    refine x_iload_n C.1 dX12_person_10 2 rfl ?_
    refine x_iconst C.1 (n := 0) dX12_person_11 ?_
    refine x_bipush C.1 (n := 10) dX12_person_12 ?_
    refine x_callSi C (As := [vI x2, vI 0, vI 10]) (rest := []) (m_in l D cy x2 ⟨by omega, by omega⟩ 0 ⟨by decide, by decide⟩ 10 ⟨by decide, by decide⟩) (l1 := []) (l2 := _) rfl (w2 := fun _ => _) (fun _ => rfl) rfl wm_yX12_in wn_X12 wl_X12_126 wi_yX12_in hd_yX12_in rfl ⟨Nat.le_of_ble_eq_true rfl, Nat.le_of_ble_eq_true rfl⟩ (Nat.le_of_ble_eq_true rfl) ⟨Nat.le_of_ble_eq_true rfl, Nat.le_of_ble_eq_true rfl⟩ dX12_person_14 (fun z5 u5 bz5 h5 => ?_)
    obtain ⟨bq5, hx5_0, hFc5⟩ := h5
    replace hF := calR_i hF hFc5
    replace hF := hF.fc bq5
    refine x_if_eq C.1 (tgt := 29) dX12_person_17 (by decide) (by omega) (fun hc6 => ?_) (fun hc6 => ?_)
    · replace hF := hF.to (if_pos hc6)
      have hof7 := Sq.off hx5_0 (by omega)
      refine x_iconst C.1 (n := 0) dX12_person_29 ?_
      exact x_zret (S := (Nat → Nat → Int)) (post := (fun a (u : Nat → Nat → Int) => MI G u ∧ ((a = 1 ∧ 0 ≤ x1 ∧ x1 < 8 ∧ 0 ≤ x2 ∧ x2 ≤ 10 ∧ 0 ≤ x3 ∧ x3 < 4) ∨ (a = 0 ∧ ¬ (0 ≤ x1 ∧ x1 < 8 ∧ 0 ≤ x2 ∧ x2 ≤ 10 ∧ 0 ≤ x3 ∧ x3 < 4))) ∧ FBm 36893488147419103232 V u ∧ (f_m_person x1 x2 x3 V J Rr) (a, u))) (w1 := (fun u : Nat → Nat → Int => MW cy ad u J Rr)) (a := 0) C hr rfl dX12_person_30 (by decide) V rfl ⟨hI, (by omega), hB, hF _ rfl⟩
    · replace hF := hF.to (if_neg hc6)
      have hon8 := Sq.on hx5_0 (by omega)
      refine x_iload_n C.1 dX12_person_20 3 rfl ?_
      refine x_iconst C.1 (n := 0) dX12_person_21 ?_
      refine x_iconst C.1 (n := 3) dX12_person_22 ?_
      refine x_callSi C (As := [vI x3, vI 0, vI 3]) (rest := []) (m_in l D cy x3 ⟨by omega, by omega⟩ 0 ⟨by decide, by decide⟩ 3 ⟨by decide, by decide⟩) (l1 := []) (l2 := _) rfl (w2 := fun _ => _) (fun _ => rfl) rfl wm_yX12_in wn_X12 wl_X12_126 wi_yX12_in hd_yX12_in rfl ⟨Nat.le_of_ble_eq_true rfl, Nat.le_of_ble_eq_true rfl⟩ (Nat.le_of_ble_eq_true rfl) ⟨Nat.le_of_ble_eq_true rfl, Nat.le_of_ble_eq_true rfl⟩ dX12_person_23 (fun z9 u9 bz9 h9 => ?_)
      obtain ⟨bq9, hx9_0, hFc9⟩ := h9
      replace hF := calR_i hF hFc9
      replace hF := hF.fc bq9
      refine x_if_ne C.1 (tgt := 31) dX12_person_26 (by decide) (by omega) (fun hc10 => ?_) (fun hc10 => ?_)
      · replace hF := hF.to (if_pos hc10)
        have hon11 := Sq.on hx9_0 (by omega)
        refine x_aload_n C.1 dX12_person_31 0 rfl ?_
        refine x_getA C (N := 33) (i := 0) (by decide) rfl vc_X12 wx_X12 0 (by decide) wf_X12_7 (a := 1) rfl dX12_person_32 ?_
        refine x_bipush C.1 (n := 78) dX12_person_35 ?_
        refine x_aload_n C.1 dX12_person_37 0 rfl ?_
        refine x_getA C (N := 33) (i := 0) (by decide) rfl vc_X12 wx_X12 0 (by decide) wf_X12_7 (a := 1) rfl dX12_person_38 ?_
        refine x_bipush C.1 (n := 78) dX12_person_41 ?_
        obtain ⟨z12, ez12, bz12⟩ := hI.rd 1 78 (x := -2147483648) (y := 2147483647) (rgN_81 (Or.inl rfl) (by decide))
        replace hF := hF.to (rdb_e (z := z12) ez12)
        refine x_iald C (N := 33) (i := 1) (q := 78) (by decide) rfl (by decide) (by decide) dX12_person_43 (a := z12) ez12 ?_
        refine x_iconst C.1 (n := 1) dX12_person_44 ?_
        refine x_iload_n C.1 dX12_person_45 1 rfl ?_
        obtain ⟨z13, hz13, bz13⟩ : ∃ z : Int, iShl 1 x1 = z ∧ (-2147483648 ≤ z ∧ z ≤ 2147483647) := ⟨_, rfl, xi_r _⟩
        replace hF := hF.to (rdb_e (z := z13) hz13)
        refine x_ishl C.1 (v := z13) hz13 dX12_person_46 ?_
        obtain ⟨z14, hz14, bz14⟩ : ∃ z : Int, iOr z12 z13 = z ∧ (-2147483648 ≤ z ∧ z ≤ 2147483647) := ⟨_, rfl, xi_r _⟩
        replace hF := hF.to (rdb_e (z := z14) hz14)
        refine x_ior C.1 (v := z14) hz14 dX12_person_47 ?_
        refine x_iast C (N := 33) (i := 1) (q := 78) (a := z14) (by decide) rfl (by decide) (by decide) dX12_person_48 ?_
        rw [show (78 : Int).toNat = 78 from rfl]
        refine x_gV ?_
        intro V15 hV15
        have hI15 : MI G V15 := hI.up hV15 (rgN_81 (Or.inl rfl) (by decide)) (by omega) rfl (Or.inr (by decide))
        have hB15 := hB.up hV15 (by rw [mkey_r (by decide)]; rfl)
        replace hF := hF.to (rdb_e (z := V15) hV15.symm)
        refine x_aload_n C.1 dX12_person_49 0 rfl ?_
        refine x_getA C (N := 33) (i := 0) (by decide) rfl vc_X12 wx_X12 0 (by decide) wf_X12_7 (a := 1) rfl dX12_person_50 ?_
        refine x_bipush C.1 (n := 52) dX12_person_53 ?_
        refine x_iload_n C.1 dX12_person_55 1 rfl ?_
        refine x_iadd C.1 (v := x1 + 52) (by omega) dX12_person_56 ?_
        refine x_iload_n C.1 dX12_person_57 2 rfl ?_
        refine x_iast C (N := 33) (i := 1) (q := x1 + 52) (a := x2) (by decide) rfl (by omega) (by decide) dX12_person_58 ?_
        refine x_gV ?_
        intro V16 hV16
        have hI16 : MI G V16 := hI15.up hV16 (rgN_60 (Or.inl rfl) (by omega)) (by omega) rfl (Or.inr (by omega))
        have hB16 := hB15.up hV16 (by rw [mkey_r (by decide)]; rfl)
        replace hF := hF.to (rdb_e (z := V16) hV16.symm)
        refine x_aload_n C.1 dX12_person_59 0 rfl ?_
        refine x_getA C (N := 33) (i := 0) (by decide) rfl vc_X12 wx_X12 0 (by decide) wf_X12_7 (a := 1) rfl dX12_person_60 ?_
        refine x_bipush C.1 (n := 60) dX12_person_63 ?_
        refine x_iload_n C.1 dX12_person_65 1 rfl ?_
        refine x_iadd C.1 (v := x1 + 60) (by omega) dX12_person_66 ?_
        refine x_iload_n C.1 dX12_person_67 3 rfl ?_
        refine x_iast C (N := 33) (i := 1) (q := x1 + 60) (a := x3) (by decide) rfl (by omega) (by decide) dX12_person_68 ?_
        refine x_gV ?_
        intro V17 hV17
        have hI17 : MI G V17 := hI16.up hV17 (rgN_68 (Or.inl rfl) (by omega)) (by omega) rfl (Or.inr (by omega))
        have hB17 := hB16.up hV17 (by rw [mkey_r (by decide)]; rfl)
        replace hF := hF.to (rdb_e (z := V17) hV17.symm)
        refine x_aload_n C.1 dX12_person_69 0 rfl ?_
        refine x_getA C (N := 33) (i := 0) (by decide) rfl vc_X12 wx_X12 0 (by decide) wf_X12_7 (a := 1) rfl dX12_person_70 ?_
        refine x_bipush C.1 (n := 68) dX12_person_73 ?_
        refine x_iload_n C.1 dX12_person_75 1 rfl ?_
        refine x_iadd C.1 (v := x1 + 68) (by omega) dX12_person_76 ?_
        refine x_iconst C.1 (n := 0) dX12_person_77 ?_
        refine x_iast C (N := 33) (i := 1) (q := x1 + 68) (a := 0) (by decide) rfl (by omega) (by decide) dX12_person_78 ?_
        refine x_gV ?_
        intro V18 hV18
        have hI18 : MI G V18 := hI17.up hV18 (rgN_81 (Or.inl rfl) (by omega)) (by decide) rfl (Or.inr (by omega))
        have hB18 := hB17.up hV18 (by rw [mkey_r (by decide)]; rfl)
        replace hF := hF.to (rdb_e (z := V18) hV18.symm)
        refine x_iconst C.1 (n := 1) dX12_person_79 ?_
        exact x_zret (S := (Nat → Nat → Int)) (post := (fun a (u : Nat → Nat → Int) => MI G u ∧ ((a = 1 ∧ 0 ≤ x1 ∧ x1 < 8 ∧ 0 ≤ x2 ∧ x2 ≤ 10 ∧ 0 ≤ x3 ∧ x3 < 4) ∨ (a = 0 ∧ ¬ (0 ≤ x1 ∧ x1 < 8 ∧ 0 ≤ x2 ∧ x2 ≤ 10 ∧ 0 ≤ x3 ∧ x3 < 4))) ∧ FBm 36893488147419103232 V u ∧ (f_m_person x1 x2 x3 V J Rr) (a, u))) (w1 := (fun u : Nat → Nat → Int => MW cy ad u J Rr)) (a := 1) C hr rfl dX12_person_80 (by decide) V18 rfl ⟨hI18, (by omega), hB18, hF _ rfl⟩
      · replace hF := hF.to (if_neg (fun hh => hh hc10))
        have hof19 := Sq.off hx9_0 (by omega)
        refine x_iconst C.1 (n := 0) dX12_person_29 ?_
        exact x_zret (S := (Nat → Nat → Int)) (post := (fun a (u : Nat → Nat → Int) => MI G u ∧ ((a = 1 ∧ 0 ≤ x1 ∧ x1 < 8 ∧ 0 ≤ x2 ∧ x2 ≤ 10 ∧ 0 ≤ x3 ∧ x3 < 4) ∨ (a = 0 ∧ ¬ (0 ≤ x1 ∧ x1 < 8 ∧ 0 ≤ x2 ∧ x2 ≤ 10 ∧ 0 ≤ x3 ∧ x3 < 4))) ∧ FBm 36893488147419103232 V u ∧ (f_m_person x1 x2 x3 V J Rr) (a, u))) (w1 := (fun u : Nat → Nat → Int => MW cy ad u J Rr)) (a := 0) C hr rfl dX12_person_30 (by decide) V rfl ⟨hI, (by omega), hB, hF _ rfl⟩
theorem dX12_card_0 : decode cX12_card 0 = .ok (.aload_n 0, 1) := by decide +kernel
theorem dX12_card_1 : decode cX12_card 1 = .ok (.iload_n 1, 1) := by decide +kernel
theorem dX12_card_2 : decode cX12_card 2 = .ok (.invokevirtual 122, 3) := by decide +kernel
theorem dX12_card_5 : decode cX12_card 5 = .ok (.ifCond .eq 26, 3) := by decide +kernel
theorem dX12_card_8 : decode cX12_card 8 = .ok (.aload_n 0, 1) := by decide +kernel
theorem dX12_card_9 : decode cX12_card 9 = .ok (.getfield 7, 3) := by decide +kernel
theorem dX12_card_12 : decode cX12_card 12 = .ok (.bipush 20, 2) := by decide +kernel
theorem dX12_card_14 : decode cX12_card 14 = .ok (.iload_n 1, 1) := by decide +kernel
theorem dX12_card_15 : decode cX12_card 15 = .ok (.iadd, 1) := by decide +kernel
theorem dX12_card_16 : decode cX12_card 16 = .ok (.iaload, 1) := by decide +kernel
theorem dX12_card_17 : decode cX12_card 17 = .ok (.bipush (-2), 2) := by decide +kernel
theorem dX12_card_19 : decode cX12_card 19 = .ok (.if_icmp .ne 7, 3) := by decide +kernel
theorem dX12_card_22 : decode cX12_card 22 = .ok (.iconst 1, 1) := by decide +kernel
theorem dX12_card_23 : decode cX12_card 23 = .ok (.goto 4, 3) := by decide +kernel
theorem dX12_card_26 : decode cX12_card 26 = .ok (.iconst 0, 1) := by decide +kernel
theorem dX12_card_27 : decode cX12_card 27 = .ok (.iload_n 2, 1) := by decide +kernel
theorem dX12_card_28 : decode cX12_card 28 = .ok (.if_icmp .eq 5, 3) := by decide +kernel
theorem dX12_card_31 : decode cX12_card 31 = .ok (.iconst 0, 1) := by decide +kernel
theorem dX12_card_32 : decode cX12_card 32 = .ok (.ireturn, 1) := by decide +kernel
theorem dX12_card_33 : decode cX12_card 33 = .ok (.aload_n 0, 1) := by decide +kernel
theorem dX12_card_34 : decode cX12_card 34 = .ok (.getfield 7, 3) := by decide +kernel
theorem dX12_card_37 : decode cX12_card 37 = .ok (.bipush 20, 2) := by decide +kernel
theorem dX12_card_39 : decode cX12_card 39 = .ok (.iload_n 1, 1) := by decide +kernel
theorem dX12_card_40 : decode cX12_card 40 = .ok (.iadd, 1) := by decide +kernel
theorem dX12_card_41 : decode cX12_card 41 = .ok (.iload_n 2, 1) := by decide +kernel
theorem dX12_card_42 : decode cX12_card 42 = .ok (.ifCond .eq 8, 3) := by decide +kernel
theorem dX12_card_45 : decode cX12_card 45 = .ok (.bipush (-3), 2) := by decide +kernel
theorem dX12_card_47 : decode cX12_card 47 = .ok (.goto 5, 3) := by decide +kernel
theorem dX12_card_50 : decode cX12_card 50 = .ok (.bipush (-2), 2) := by decide +kernel
theorem dX12_card_52 : decode cX12_card 52 = .ok (.iastore, 1) := by decide +kernel
theorem dX12_card_53 : decode cX12_card 53 = .ok (.iconst 1, 1) := by decide +kernel
theorem dX12_card_54 : decode cX12_card 54 = .ok (.ireturn, 1) := by decide +kernel
set_option maxRecDepth 100000 in
def f_m_card (x1 : Int) (x2 : Int) (V : Nat → Nat → Int) (J : Nat → Nat → Int) (Rr : Nat → Nat → Nat) : (Int × (Nat → Nat → Int)) → Prop :=
  calR (f_m_isPlant x1 V J Rr) fun z1 => fct (0 ≤ z1 ∧ z1 ≤ 1) <| (if z1 = 0 then rtn (0, V) else rdb (V 1 ((x1 + 20).toNat)) fun z4 => jnk (fun (z5 : Int) => (if z5 = x2 then (if x2 = 0 then rdb (up2 V 1 ((x1 + 20).toNat) (-2)) fun V9 => rtn (1, V9) else rdb (up2 V 1 ((x1 + 20).toNat) (-3)) fun V10 => rtn (1, V10)) else rtn (0, V))) fun jf6 => (if ¬ z4 = (-2) then jf6 0 else jf6 1))
set_option maxHeartbeats 8000000 in
set_option maxRecDepth 100000 in
theorem m_card (l : Launch) (D : va_G) (cy : Nat → ClassId) (ad : Nat → Nat) (G : Nat → Nat → Int) (V J : Nat → Nat → Int) (Rr : Nat → Nat → Nat) (hI : MI G V) (hJ : VJ J) (hR : MR Rr) (x1 : Int) (bx1 : -2147483648 ≤ x1 ∧ x1 ≤ 2147483647) (x2 : Int) (bx2 : 0 ≤ x2 ∧ x2 ≤ 1) : xMi l D (xTY cy) yX12_card cX12_card 3 (some .boolean) 2 42 0 0 [.ref (ad 0), vI x1, vI x2] (MW cy ad V J Rr) (fun u : Nat → Nat → Int => MW cy ad u J Rr) (fun a (u : Nat → Nat → Int) => MI G u ∧ FBm 36893488147419103232 V u ∧ (f_m_card x1 x2 V J Rr) (a, u)) := by
  refine xMi.mk (lv0 := [(0, .ref (ad 0)), (1, vI x1), (2, vI x2)]) (by decide) rfl (Nat.le_of_ble_eq_true rfl) (fun p e s m below meth c A C hr hnm hAe => ?_)
  have C : xC2 p s m _ meth c D A s.heap 3 cX12_card RX12 (xTY cy) := C
  have hB : FBm 36893488147419103232 V V := FBm.rf _ _
  have hF := Imp.of_eq (f_m_card.eq_def x1 x2 V J Rr)
  refine x_aload_n C.1 dX12_card_0 0 rfl ?_
  refine x_iload_n C.1 dX12_card_1 1 rfl ?_
  refine x_callVi C (As := [vI x1]) (rest := []) 0 (xw_at (N := 33) (i := 0) (by decide) rfl) vc_X12 (m_isPlant l D cy ad G V J Rr hI hJ hR x1 ⟨by omega, by omega⟩) (l1 := []) (l2 := []) (List.append_nil _).symm (w2 := fun _ => MW cy ad V J Rr) (fun _ => List.append_nil _) rfl wm_yX12_isPlant wn_X12 wl_X12_122 wi_yX12_isPlant we_yX12_isPlant hd_yX12_isPlant rfl ⟨Nat.le_of_ble_eq_true rfl, Nat.le_of_ble_eq_true rfl⟩ (Nat.le_of_ble_eq_true rfl) ⟨Nat.le_of_ble_eq_true rfl, Nat.le_of_ble_eq_true rfl⟩ dX12_card_2 (fun z1 u1 bz1 h1 => ?_)
  obtain ⟨hon1, hFc1⟩ := h1
  replace hF := calR_i hF hFc1
  replace hF := hF.fc hon1.r
  have bq1 := Sp.r hon1
  refine x_if_eq C.1 (tgt := 31) dX12_card_5 (by decide) (by omega) (fun hc2 => ?_) (fun hc2 => ?_)
  · replace hF := hF.to (if_pos hc2)
    refine x_iconst C.1 (n := 0) dX12_card_31 ?_
    exact x_zret (S := (Nat → Nat → Int)) (post := (fun a (u : Nat → Nat → Int) => MI G u ∧ FBm 36893488147419103232 V u ∧ (f_m_card x1 x2 V J Rr) (a, u))) (w1 := (fun u : Nat → Nat → Int => MW cy ad u J Rr)) (a := 0) C hr rfl dX12_card_32 (by decide) V rfl ⟨hI, hB, hF _ rfl⟩
  · replace hF := hF.to (if_neg hc2)
    have hon3 := Sp.on hon1 (by omega)
    refine x_aload_n C.1 dX12_card_8 0 rfl ?_
    refine x_getA C (N := 33) (i := 0) (by decide) rfl vc_X12 wx_X12 0 (by decide) wf_X12_7 (a := 1) rfl dX12_card_9 ?_
    refine x_bipush C.1 (n := 20) dX12_card_12 ?_
    refine x_iload_n C.1 dX12_card_14 1 rfl ?_
    refine x_iadd C.1 (v := x1 + 20) (by omega) dX12_card_15 ?_
    obtain ⟨z4, ez4, bz4⟩ := hI.rd 1 ((x1 + 20).toNat) (x := -2147483648) (y := 2147483647) (rgN_60 (Or.inl rfl) (by omega))
    replace hF := hF.to (rdb_e (z := z4) ez4)
    refine x_iald C (N := 33) (i := 1) (q := x1 + 20) (by decide) rfl (by omega) (by decide) dX12_card_16 (a := z4) ez4 ?_
    refine x_bipush C.1 (n := -2) dX12_card_17 ?_
    obtain ⟨jf6, hjf6, hF⟩ := jn_ex hF
    refine x_join (I := fun z5 : Int => (0 ≤ z5 ∧ z5 ≤ 1) ∧ Imp (jf6 z5) (f_m_card x1 x2 V J Rr)) (wsf := fun z5 : Int => MW cy ad V J Rr) (lvf := fun z5 : Int => [(0, .ref (ad 0)), (1, vI x1), (2, vI x2)]) (stf := fun z5 : Int => [vI z5]) 27 (fun z5 hI6x => ?_) (fun jn6 => ?_)
    · obtain ⟨bz5, hF⟩ := hI6x
      try dsimp only
      replace hF := hF.to (jn_s1 hjf6)
      refine x_iload_n C.1 dX12_card_27 2 rfl ?_
      refine x_icmp_eq C.1 (tgt := 33) dX12_card_28 (by decide) (by omega) (by omega) (fun hc7 => ?_) (fun hc7 => ?_)
      · replace hF := hF.to (if_pos hc7)
        refine x_aload_n C.1 dX12_card_33 0 rfl ?_
        refine x_getA C (N := 33) (i := 0) (by decide) rfl vc_X12 wx_X12 0 (by decide) wf_X12_7 (a := 1) rfl dX12_card_34 ?_
        refine x_bipush C.1 (n := 20) dX12_card_37 ?_
        refine x_iload_n C.1 dX12_card_39 1 rfl ?_
        refine x_iadd C.1 (v := x1 + 20) (by omega) dX12_card_40 ?_
        refine x_iload_n C.1 dX12_card_41 2 rfl ?_
        refine x_if_eq C.1 (tgt := 50) dX12_card_42 (by decide) (by omega) (fun hc8 => ?_) (fun hc8 => ?_)
        · replace hF := hF.to (if_pos hc8)
          refine x_bipush C.1 (n := -2) dX12_card_50 ?_
          refine x_iast C (N := 33) (i := 1) (q := x1 + 20) (a := (-2)) (by decide) rfl (by omega) (by decide) dX12_card_52 ?_
          refine x_gV ?_
          intro V9 hV9
          have hI9 : MI G V9 := hI.up hV9 (rgN_60 (Or.inl rfl) (by omega)) (by decide) rfl (Or.inr (by omega))
          have hB9 := hB.up hV9 (by rw [mkey_r (by decide)]; rfl)
          replace hF := hF.to (rdb_e (z := V9) hV9.symm)
          refine x_iconst C.1 (n := 1) dX12_card_53 ?_
          exact x_zret (S := (Nat → Nat → Int)) (post := (fun a (u : Nat → Nat → Int) => MI G u ∧ FBm 36893488147419103232 V u ∧ (f_m_card x1 x2 V J Rr) (a, u))) (w1 := (fun u : Nat → Nat → Int => MW cy ad u J Rr)) (a := 1) C hr rfl dX12_card_54 (by decide) V9 rfl ⟨hI9, hB9, hF _ rfl⟩
        · replace hF := hF.to (if_neg hc8)
          refine x_bipush C.1 (n := -3) dX12_card_45 ?_
          refine x_goto C.1 (tgt := 52) dX12_card_47 (by decide) ?_
          refine x_iast C (N := 33) (i := 1) (q := x1 + 20) (a := (-3)) (by decide) rfl (by omega) (by decide) dX12_card_52 ?_
          refine x_gV ?_
          intro V10 hV10
          have hI10 : MI G V10 := hI.up hV10 (rgN_60 (Or.inl rfl) (by omega)) (by decide) rfl (Or.inr (by omega))
          have hB10 := hB.up hV10 (by rw [mkey_r (by decide)]; rfl)
          replace hF := hF.to (rdb_e (z := V10) hV10.symm)
          refine x_iconst C.1 (n := 1) dX12_card_53 ?_
          exact x_zret (S := (Nat → Nat → Int)) (post := (fun a (u : Nat → Nat → Int) => MI G u ∧ FBm 36893488147419103232 V u ∧ (f_m_card x1 x2 V J Rr) (a, u))) (w1 := (fun u : Nat → Nat → Int => MW cy ad u J Rr)) (a := 1) C hr rfl dX12_card_54 (by decide) V10 rfl ⟨hI10, hB10, hF _ rfl⟩
      · replace hF := hF.to (if_neg hc7)
        refine x_iconst C.1 (n := 0) dX12_card_31 ?_
        exact x_zret (S := (Nat → Nat → Int)) (post := (fun a (u : Nat → Nat → Int) => MI G u ∧ FBm 36893488147419103232 V u ∧ (f_m_card x1 x2 V J Rr) (a, u))) (w1 := (fun u : Nat → Nat → Int => MW cy ad u J Rr)) (a := 0) C hr rfl dX12_card_32 (by decide) V rfl ⟨hI, hB, hF _ rfl⟩
    · refine x_icmp_ne C.1 (tgt := 26) dX12_card_19 (by decide) (by omega) (by decide) (fun hc11 => ?_) (fun hc11 => ?_)
      · replace hF := hF.to (if_pos hc11)
        refine x_iconst C.1 (n := 0) dX12_card_26 ?_
        exact jn6 0 ⟨⟨by decide, by decide⟩, hF⟩
      · replace hF := hF.to (if_neg (fun hh => hh hc11))
        refine x_iconst C.1 (n := 1) dX12_card_22 ?_
        refine x_goto C.1 (tgt := 27) dX12_card_23 (by decide) ?_
        exact jn6 1 ⟨⟨by decide, by decide⟩, hF⟩
theorem hd_yX12_lives : yX12_lives.cls ≠ "java/lang/invoke/MethodHandle" ∧ yX12_lives.cls ≠ "java/lang/invoke/VarHandle" ∧ (parseMethodDescriptor yX12_lives.desc).map (fun d => d.parameters.length) = some 1 := by decide +kernel
theorem hd_yX12_min : yX12_min.cls ≠ "java/lang/invoke/MethodHandle" ∧ yX12_min.cls ≠ "java/lang/invoke/VarHandle" ∧ (parseMethodDescriptor yX12_min.desc).map (fun d => d.parameters.length) = some 2 := by decide +kernel
theorem dX12_pour_0 : decode cX12_pour 0 = .ok (.aload_n 0, 1) := by decide +kernel
theorem dX12_pour_1 : decode cX12_pour 1 = .ok (.iload_n 1, 1) := by decide +kernel
theorem dX12_pour_2 : decode cX12_pour 2 = .ok (.invokevirtual 130, 3) := by decide +kernel
theorem dX12_pour_5 : decode cX12_pour 5 = .ok (.ifCond .eq 13, 3) := by decide +kernel
theorem dX12_pour_8 : decode cX12_pour 8 = .ok (.iload_n 2, 1) := by decide +kernel
theorem dX12_pour_9 : decode cX12_pour 9 = .ok (.iconst 0, 1) := by decide +kernel
theorem dX12_pour_10 : decode cX12_pour 10 = .ok (.bipush 24, 2) := by decide +kernel
theorem dX12_pour_12 : decode cX12_pour 12 = .ok (.invokestatic 126, 3) := by decide +kernel
theorem dX12_pour_15 : decode cX12_pour 15 = .ok (.ifCond .ne 5, 3) := by decide +kernel
theorem dX12_pour_18 : decode cX12_pour 18 = .ok (.iconst (-1), 1) := by decide +kernel
theorem dX12_pour_19 : decode cX12_pour 19 = .ok (.ireturn, 1) := by decide +kernel
theorem dX12_pour_20 : decode cX12_pour 20 = .ok (.aload_n 0, 1) := by decide +kernel
theorem dX12_pour_21 : decode cX12_pour 21 = .ok (.getfield 7, 3) := by decide +kernel
theorem dX12_pour_24 : decode cX12_pour 24 = .ok (.iconst 4, 1) := by decide +kernel
theorem dX12_pour_25 : decode cX12_pour 25 = .ok (.iload_n 1, 1) := by decide +kernel
theorem dX12_pour_26 : decode cX12_pour 26 = .ok (.iadd, 1) := by decide +kernel
theorem dX12_pour_27 : decode cX12_pour 27 = .ok (.aload_n 0, 1) := by decide +kernel
theorem dX12_pour_28 : decode cX12_pour 28 = .ok (.getfield 7, 3) := by decide +kernel
theorem dX12_pour_31 : decode cX12_pour 31 = .ok (.iconst 0, 1) := by decide +kernel
theorem dX12_pour_32 : decode cX12_pour 32 = .ok (.iload_n 1, 1) := by decide +kernel
theorem dX12_pour_33 : decode cX12_pour 33 = .ok (.iadd, 1) := by decide +kernel
theorem dX12_pour_34 : decode cX12_pour 34 = .ok (.iaload, 1) := by decide +kernel
theorem dX12_pour_35 : decode cX12_pour 35 = .ok (.aload_n 0, 1) := by decide +kernel
theorem dX12_pour_36 : decode cX12_pour 36 = .ok (.getfield 7, 3) := by decide +kernel
theorem dX12_pour_39 : decode cX12_pour 39 = .ok (.iconst 4, 1) := by decide +kernel
theorem dX12_pour_40 : decode cX12_pour 40 = .ok (.iload_n 1, 1) := by decide +kernel
theorem dX12_pour_41 : decode cX12_pour 41 = .ok (.iadd, 1) := by decide +kernel
theorem dX12_pour_42 : decode cX12_pour 42 = .ok (.iaload, 1) := by decide +kernel
theorem dX12_pour_43 : decode cX12_pour 43 = .ok (.iload_n 2, 1) := by decide +kernel
theorem dX12_pour_44 : decode cX12_pour 44 = .ok (.iadd, 1) := by decide +kernel
theorem dX12_pour_45 : decode cX12_pour 45 = .ok (.invokestatic 133, 3) := by decide +kernel
theorem dX12_pour_48 : decode cX12_pour 48 = .ok (.iastore, 1) := by decide +kernel
theorem dX12_pour_49 : decode cX12_pour 49 = .ok (.aload_n 0, 1) := by decide +kernel
theorem dX12_pour_50 : decode cX12_pour 50 = .ok (.getfield 7, 3) := by decide +kernel
theorem dX12_pour_53 : decode cX12_pour 53 = .ok (.iconst 4, 1) := by decide +kernel
theorem dX12_pour_54 : decode cX12_pour 54 = .ok (.iload_n 1, 1) := by decide +kernel
theorem dX12_pour_55 : decode cX12_pour 55 = .ok (.iadd, 1) := by decide +kernel
theorem dX12_pour_56 : decode cX12_pour 56 = .ok (.iaload, 1) := by decide +kernel
theorem dX12_pour_57 : decode cX12_pour 57 = .ok (.ireturn, 1) := by decide +kernel
set_option maxRecDepth 100000 in
def f_m_pour (x1 : Int) (x2 : Int) (V : Nat → Nat → Int) (J : Nat → Nat → Int) (Rr : Nat → Nat → Nat) : (Int × (Nat → Nat → Int)) → Prop :=
  calR (f_m_lives x1 V J Rr) fun z1 => fct (0 ≤ z1 ∧ z1 ≤ 1) <| (if z1 = 0 then rtn ((-1), V) else rdb (V 1 ((x1 + 12).toNat)) fun z4 => fct (0 ≤ z4 ∧ z4 ≤ 8) <| rdb (V 1 ((x1 + 16).toNat)) fun z5 => fct (0 ≤ z5 ∧ z5 ≤ 8) <| calR (f_m_in x2 0 24) fun z6 => fct (0 ≤ z6 ∧ z6 ≤ 1) <| (if ¬ z6 = 0 then rdb (V 1 x1.toNat) fun z9 => fct (0 ≤ z9 ∧ z9 ≤ 24) <| rdb (V 1 ((x1 + 4).toNat)) fun z10 => fct (0 ≤ z10 ∧ z10 ≤ 24) <| calR (f_m_min z9 (z10 + x2)) fun z11 => rdb (up2 V 1 ((x1 + 4).toNat) z11) fun V13 => rtn (z11, V13) else rtn ((-1), V)))
set_option maxHeartbeats 8000000 in
set_option maxRecDepth 100000 in
theorem m_pour (l : Launch) (D : va_G) (cy : Nat → ClassId) (ad : Nat → Nat) (G : Nat → Nat → Int) (V J : Nat → Nat → Int) (Rr : Nat → Nat → Nat) (hI : MI G V) (hJ : VJ J) (hR : MR Rr) (x1 : Int) (bx1 : -2147483648 ≤ x1 ∧ x1 ≤ 2147483647) (x2 : Int) (bx2 : -2147483648 ≤ x2 ∧ x2 ≤ 2147483647) : xMi l D (xTY cy) yX12_pour cX12_pour 3 (some .int) 3 63 0 0 [.ref (ad 0), vI x1, vI x2] (MW cy ad V J Rr) (fun u : Nat → Nat → Int => MW cy ad u J Rr) (fun a (u : Nat → Nat → Int) => MI G u ∧ FBm 36893488147419103232 V u ∧ (f_m_pour x1 x2 V J Rr) (a, u)) := by
  refine xMi.mk (lv0 := [(0, .ref (ad 0)), (1, vI x1), (2, vI x2)]) (by decide) rfl (Nat.le_of_ble_eq_true rfl) (fun p e s m below meth c A C hr hnm hAe => ?_)
  have C : xC2 p s m _ meth c D A s.heap 3 cX12_pour RX12 (xTY cy) := C
  have hB : FBm 36893488147419103232 V V := FBm.rf _ _
  have hF := Imp.of_eq (f_m_pour.eq_def x1 x2 V J Rr)
  refine x_aload_n C.1 dX12_pour_0 0 rfl ?_
  refine x_iload_n C.1 dX12_pour_1 1 rfl ?_
  refine x_callVi C (As := [vI x1]) (rest := []) 0 (xw_at (N := 33) (i := 0) (by decide) rfl) vc_X12 (m_lives l D cy ad G V J Rr hI hJ hR x1 ⟨by omega, by omega⟩) (l1 := []) (l2 := []) (List.append_nil _).symm (w2 := fun _ => MW cy ad V J Rr) (fun _ => List.append_nil _) rfl wm_yX12_lives wn_X12 wl_X12_130 wi_yX12_lives we_yX12_lives hd_yX12_lives rfl ⟨Nat.le_of_ble_eq_true rfl, Nat.le_of_ble_eq_true rfl⟩ (Nat.le_of_ble_eq_true rfl) ⟨Nat.le_of_ble_eq_true rfl, Nat.le_of_ble_eq_true rfl⟩ dX12_pour_2 (fun z1 u1 bz1 h1 => ?_)
  obtain ⟨bq1, hx1_0, hFc1⟩ := h1
  replace hF := calR_i hF hFc1
  replace hF := hF.fc bq1
  refine x_if_eq C.1 (tgt := 18) dX12_pour_5 (by decide) (by omega) (fun hc2 => ?_) (fun hc2 => ?_)
  · replace hF := hF.to (if_pos hc2)
    refine x_iconst C.1 (n := -1) dX12_pour_18 ?_
    exact x_iret (S := (Nat → Nat → Int)) (post := (fun a (u : Nat → Nat → Int) => MI G u ∧ FBm 36893488147419103232 V u ∧ (f_m_pour x1 x2 V J Rr) (a, u))) (w1 := (fun u : Nat → Nat → Int => MW cy ad u J Rr)) (a := (-1)) C hr rfl dX12_pour_19 (by decide) V rfl ⟨hI, hB, hF _ rfl⟩
  · replace hF := hF.to (if_neg hc2)
    have hon3 := Sp.on hx1_0 (by omega)
    obtain ⟨z4, ez4, bz4⟩ := hI.rd 1 ((x1 + 12).toNat) (x := 0) (y := 9) (rgN_20 (Or.inl rfl) (by omega))
    have by4 : z4 ≤ 8 := by rw [← ez4, show (x1 + 12).toNat = 12 + x1.toNat by omega]; exact hon3.2.1
    replace hF := hF.to (rdb_e (z := z4) ez4)
    replace hF := hF.fc ⟨bz4.1, by4⟩
    obtain ⟨z5, ez5, bz5⟩ := hI.rd 1 ((x1 + 16).toNat) (x := 0) (y := 9) (rgN_20 (Or.inl rfl) (by omega))
    have by5 : z5 ≤ 8 := by rw [← ez5, show (x1 + 16).toNat = 16 + x1.toNat by omega]; exact hon3.2.2
    replace hF := hF.to (rdb_e (z := z5) ez5)
    replace hF := hF.fc ⟨bz5.1, by5⟩
    refine x_iload_n C.1 dX12_pour_8 2 rfl ?_
    refine x_iconst C.1 (n := 0) dX12_pour_9 ?_
    refine x_bipush C.1 (n := 24) dX12_pour_10 ?_
    refine x_callSi C (As := [vI x2, vI 0, vI 24]) (rest := []) (m_in l D cy x2 ⟨by omega, by omega⟩ 0 ⟨by decide, by decide⟩ 24 ⟨by decide, by decide⟩) (l1 := []) (l2 := _) rfl (w2 := fun _ => _) (fun _ => rfl) rfl wm_yX12_in wn_X12 wl_X12_126 wi_yX12_in hd_yX12_in rfl ⟨Nat.le_of_ble_eq_true rfl, Nat.le_of_ble_eq_true rfl⟩ (Nat.le_of_ble_eq_true rfl) ⟨Nat.le_of_ble_eq_true rfl, Nat.le_of_ble_eq_true rfl⟩ dX12_pour_12 (fun z6 u6 bz6 h6 => ?_)
    obtain ⟨bq6, hx6_0, hFc6⟩ := h6
    replace hF := calR_i hF hFc6
    replace hF := hF.fc bq6
    refine x_if_ne C.1 (tgt := 20) dX12_pour_15 (by decide) (by omega) (fun hc7 => ?_) (fun hc7 => ?_)
    · replace hF := hF.to (if_pos hc7)
      have hon8 := Sq.on hx6_0 (by omega)
      refine x_aload_n C.1 dX12_pour_20 0 rfl ?_
      refine x_getA C (N := 33) (i := 0) (by decide) rfl vc_X12 wx_X12 0 (by decide) wf_X12_7 (a := 1) rfl dX12_pour_21 ?_
      refine x_iconst C.1 (n := 4) dX12_pour_24 ?_
      refine x_iload_n C.1 dX12_pour_25 1 rfl ?_
      refine x_iadd C.1 (v := x1 + 4) (by omega) dX12_pour_26 ?_
      refine x_aload_n C.1 dX12_pour_27 0 rfl ?_
      refine x_getA C (N := 33) (i := 0) (by decide) rfl vc_X12 wx_X12 0 (by decide) wf_X12_7 (a := 1) rfl dX12_pour_28 ?_
      refine x_iconst C.1 (n := 0) dX12_pour_31 ?_
      refine x_iload_n C.1 dX12_pour_32 1 rfl ?_
      refine x_iadd C.1 (v := x1) (by omega) dX12_pour_33 ?_
      obtain ⟨z9, ez9, bz9⟩ := hI.rd 1 x1.toNat (x := 0) (y := 24) (rgN_8 (Or.inl rfl) (by omega))
      replace hF := hF.to (rdb_e (z := z9) ez9)
      replace hF := hF.fc bz9
      refine x_iald C (N := 33) (i := 1) (q := x1) (by decide) rfl (by omega) (by decide) dX12_pour_34 (a := z9) ez9 ?_
      refine x_aload_n C.1 dX12_pour_35 0 rfl ?_
      refine x_getA C (N := 33) (i := 0) (by decide) rfl vc_X12 wx_X12 0 (by decide) wf_X12_7 (a := 1) rfl dX12_pour_36 ?_
      refine x_iconst C.1 (n := 4) dX12_pour_39 ?_
      refine x_iload_n C.1 dX12_pour_40 1 rfl ?_
      refine x_iadd C.1 (v := x1 + 4) (by omega) dX12_pour_41 ?_
      obtain ⟨z10, ez10, bz10⟩ := hI.rd 1 ((x1 + 4).toNat) (x := 0) (y := 24) (rgN_8 (Or.inl rfl) (by omega))
      replace hF := hF.to (rdb_e (z := z10) ez10)
      replace hF := hF.fc bz10
      refine x_iald C (N := 33) (i := 1) (q := x1 + 4) (by decide) rfl (by omega) (by decide) dX12_pour_42 (a := z10) ez10 ?_
      refine x_iload_n C.1 dX12_pour_43 2 rfl ?_
      refine x_iadd C.1 (v := z10 + x2) (by omega) dX12_pour_44 ?_
      refine x_callSi C (As := [vI z9, vI (z10 + x2)]) (rest := [vI (x1 + 4), .ref (ad 1)]) (m_min l D cy z9 ⟨by omega, by omega⟩ (z10 + x2) ⟨by omega, by omega⟩) (l1 := []) (l2 := _) rfl (w2 := fun _ => _) (fun _ => rfl) rfl wm_yX12_min wn_X12 wl_X12_133 wi_yX12_min hd_yX12_min rfl ⟨Nat.le_of_ble_eq_true rfl, Nat.le_of_ble_eq_true rfl⟩ (Nat.le_of_ble_eq_true rfl) ⟨Nat.le_of_ble_eq_true rfl, Nat.le_of_ble_eq_true rfl⟩ dX12_pour_45 (fun z11 u11 bz11 h11 => ?_)
      obtain ⟨hx11_0, hFc11⟩ := h11
      replace hF := calR_i hF hFc11
      have bm12 : 0 ≤ z11 ∧ z11 ≤ 24 := by omega
      skip
      refine x_iast C (N := 33) (i := 1) (q := x1 + 4) (a := z11) (by decide) rfl (by omega) (by decide) dX12_pour_48 ?_
      refine x_gV ?_
      intro V13 hV13
      have hI13 : MI G V13 := hI.up hV13 (rgN_8 (Or.inl rfl) (by omega)) (by omega) rfl (Or.inr (by omega))
      have hB13 := hB.up hV13 (by rw [mkey_r (by decide)]; rfl)
      replace hF := hF.to (rdb_e (z := V13) hV13.symm)
      refine x_aload_n C.1 dX12_pour_49 0 rfl ?_
      refine x_getA C (N := 33) (i := 0) (by decide) rfl vc_X12 wx_X12 0 (by decide) wf_X12_7 (a := 1) rfl dX12_pour_50 ?_
      refine x_iconst C.1 (n := 4) dX12_pour_53 ?_
      refine x_iload_n C.1 dX12_pour_54 1 rfl ?_
      refine x_iadd C.1 (v := x1 + 4) (by omega) dX12_pour_55 ?_
      refine x_iald C (N := 33) (i := 1) (q := x1 + 4) (by decide) rfl (by omega) (by decide) dX12_pour_56 (a := z11) ((congrFun (congrFun hV13 1) ((x1 + 4).toNat)).trans (up2_s _ _ _ _)) ?_
      exact x_iret (S := (Nat → Nat → Int)) (post := (fun a (u : Nat → Nat → Int) => MI G u ∧ FBm 36893488147419103232 V u ∧ (f_m_pour x1 x2 V J Rr) (a, u))) (w1 := (fun u : Nat → Nat → Int => MW cy ad u J Rr)) (a := z11) C hr rfl dX12_pour_57 (by omega) V13 rfl ⟨hI13, hB13, hF _ rfl⟩
    · replace hF := hF.to (if_neg (fun hh => hh hc7))
      refine x_iconst C.1 (n := -1) dX12_pour_18 ?_
      exact x_iret (S := (Nat → Nat → Int)) (post := (fun a (u : Nat → Nat → Int) => MI G u ∧ FBm 36893488147419103232 V u ∧ (f_m_pour x1 x2 V J Rr) (a, u))) (w1 := (fun u : Nat → Nat → Int => MW cy ad u J Rr)) (a := (-1)) C hr rfl dX12_pour_19 (by decide) V rfl ⟨hI, hB, hF _ rfl⟩
end
