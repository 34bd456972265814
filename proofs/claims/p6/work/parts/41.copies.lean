def cpN (V : Nat → Nat → Int) (a b n : Nat) : Nat → Nat → Int := fun j k => if j = b ∧ k < n then V a k else V j k
theorem cpN_0 (V : Nat → Nat → Int) (a b : Nat) : cpN V a b 0 = V := by funext j k; simp [cpN]
theorem cpN_n {V : Nat → Nat → Int} {a b n j : Nat} (h : j ≠ b) : cpN V a b n j = V j := by funext k; simp [cpN, h]
theorem cpN_s {V : Nat → Nat → Int} {a b n : Nat} (h : a ≠ b) : up2 (cpN V a b n) b n (cpN V a b n a n) = cpN V a b (n + 1) := by
  rw [cpN_n h]
  funext j k
  by_cases hj : j = b
  · subst hj
    by_cases hk : k = n
    · subst hk
      rw [up2_s]
      simp [cpN]
    · rw [up2_n _ _ (Or.inr hk)]
      have : k < n + 1 ↔ k < n := by omega
      simp [cpN, this]
  · rw [up2_n _ _ (Or.inl hj)]
    simp [cpN, hj]
theorem cpN_VR {V : Nat → Nat → Int} {a b n : Nat} (h : VR V) : VR (cpN V a b n) := by
  intro j k
  unfold cpN
  split <;> exact h _ _
theorem dX12_copies_0 : decode cX12_copies 0 = .ok (.iconst 0, 1) := by decide +kernel
theorem dX12_copies_1 : decode cX12_copies 1 = .ok (.istore_n 2, 1) := by decide +kernel
theorem dX12_copies_2 : decode cX12_copies 2 = .ok (.iload_n 2, 1) := by decide +kernel
theorem dX12_copies_3 : decode cX12_copies 3 = .ok (.bipush 81, 2) := by decide +kernel
theorem dX12_copies_5 : decode cX12_copies 5 = .ok (.if_icmp .ge 15, 3) := by decide +kernel
theorem dX12_copies_8 : decode cX12_copies 8 = .ok (.aload_n 1, 1) := by decide +kernel
theorem dX12_copies_9 : decode cX12_copies 9 = .ok (.iload_n 2, 1) := by decide +kernel
theorem dX12_copies_10 : decode cX12_copies 10 = .ok (.aload_n 0, 1) := by decide +kernel
theorem dX12_copies_11 : decode cX12_copies 11 = .ok (.iload_n 2, 1) := by decide +kernel
theorem dX12_copies_12 : decode cX12_copies 12 = .ok (.iaload, 1) := by decide +kernel
theorem dX12_copies_13 : decode cX12_copies 13 = .ok (.iastore, 1) := by decide +kernel
theorem dX12_copies_14 : decode cX12_copies 14 = .ok (.iinc 2 1, 3) := by decide +kernel
theorem dX12_copies_17 : decode cX12_copies 17 = .ok (.goto (-15), 3) := by decide +kernel
theorem dX12_copies_20 : decode cX12_copies 20 = .ok (.return_, 1) := by decide +kernel
set_option maxHeartbeats 4000000 in
set_option maxRecDepth 100000 in
theorem c_copies (l : Launch) (D : va_G) (cy : Nat → ClassId) (ad : Nat → Nat) (V J : Nat → Nat → Int) (Rr : Nat → Nat → Nat) (hV : VR V) (hJ : VJ J) (ca cb : Nat) (hca : ca < 33) (hcb : cb < 33) (hda : mdsc ca = .inr (0, 81, 0, 0, 0)) (hdb : mdsc cb = .inr (0, 81, 0, 0, 0)) (hne : ca ≠ cb) : xMv l D (xTY cy) yX12_copies cX12_copies 3 none 0 0 0 0 [.ref (ad ca), .ref (ad cb)] (MW cy ad V J Rr) (fun u : xS => MW cy ad u.1 u.2.1 u.2.2) (fun u => u = (cpN V ca cb 81, J, Rr)) := by
  refine xMv.mk (lv0 := [(0, .ref (ad ca)), (1, .ref (ad cb))]) (by decide) rfl (Nat.le_of_ble_eq_true rfl) (fun p e s m below meth c A C hr hnm hAe => ?_)
  have C : xC2 p s m _ meth c D A s.heap 3 cX12_copies RX12 (xTY cy) := C
  refine x_iconst C.1 (n := 0) dX12_copies_0 ?_
  refine x_istore_n C.1 (lv' := [(2, vI 0), (0, .ref (ad ca)), (1, .ref (ad cb))]) dX12_copies_1 (by decide) rfl ?_
  refine x_loop (I := fun zi : Nat => zi ≤ 81) (μ := fun zi : Nat => 81 - zi) (wsf := fun zi : Nat => MW cy ad (cpN V ca cb zi) J Rr) (lvf := fun zi : Nat => [(2, vI (zi : Int)), (0, .ref (ad ca)), (1, .ref (ad cb))]) (fun zi hI ih1 => ?_) (0) (Nat.zero_le _) (by (try dsimp only); rw [cpN_0]) rfl
  obtain hI := hI
  try dsimp only
  refine x_iload_n C.1 dX12_copies_2 0 rfl ?_
  refine x_bipush C.1 (n := 81) dX12_copies_3 ?_
  refine x_icmp_ge C.1 (tgt := 20) dX12_copies_5 (by decide) (by omega) (by decide) (fun c5_2 => ?_) (fun c5_2 => ?_)
  · exact x_vret (S := xS) (post := fun u => u = (cpN V ca cb 81, J, Rr)) (w1 := fun u : xS => MW cy ad u.1 u.2.1 u.2.2) C hr rfl dX12_copies_20 ((cpN V ca cb zi), J, Rr) rfl (by rw [show zi = 81 by omega])
  · refine x_aload_n C.1 dX12_copies_8 2 rfl ?_
    refine x_iload_n C.1 dX12_copies_9 0 rfl ?_
    refine x_aload_n C.1 dX12_copies_10 1 rfl ?_
    refine x_iload_n C.1 dX12_copies_11 0 rfl ?_
    refine x_iald C (N := 33) (i := ca) (q := (zi : Int)) hca hda (by omega) (by decide) dX12_copies_12 (a := (cpN V ca cb zi) ca ((zi : Int).toNat)) rfl ?_
    refine x_iast C (N := 33) (i := cb) (q := (zi : Int)) (a := (cpN V ca cb zi) ca ((zi : Int).toNat)) hcb hdb (by omega) (by decide) dX12_copies_13 ?_
    refine x_iinc C.1 (v := (zi : Int) + 1) (lv' := [(2, vI ((zi : Int) + 1)), (0, .ref (ad ca)), (1, .ref (ad cb))]) rfl dX12_copies_14 0 rfl (by decide) rfl ?_
    refine x_goto C.1 (tgt := 2) dX12_copies_17 (by decide) ?_
    rw [Int.toNat_natCast, cpN_s hne, ← Int.natCast_add_one]
    exact ih1 (zi + 1) (by omega) (by omega)
theorem hd_yX12_copies : yX12_copies.cls ≠ "java/lang/invoke/MethodHandle" ∧ yX12_copies.cls ≠ "java/lang/invoke/VarHandle" ∧ (parseMethodDescriptor yX12_copies.desc).map (fun d => d.parameters.length) = some 2 := by decide +kernel
theorem MI.vr {G V : Nat → Nat → Int} (h : MI G V) : VR V := fun i k => ⟨Int.le_trans (rgM_s i k).1 (h.1 i k).1.1, Int.le_trans (h.1 i k).1.2 (rgM_s i k).2⟩
theorem MI.cp {G V W : Nat → Nat → Int} (h : MI G V) {o b : Nat} (hW : W = cpN V o b 81) (ho : o = 1 ∨ o = 2 ∨ o = 3) (hb : b = 1 ∨ b = 2 ∨ b = 3) : MI G W := by
  subst hW
  have hr : ∀ k, rgM o k = rgM b k := fun k => by rcases ho with rfl | rfl | rfl <;> rcases hb with rfl | rfl | rfl <;> rfl
  have hd : dOK (V o) := by rcases ho with rfl | rfl | rfl; exact h.2.1; exact h.2.2.1; exact h.2.2.2
  have e1 : ∀ k, k < 81 → cpN V o b 81 b k = V o k := fun k hk => by simp [cpN, hk]
  have e2 : ∀ j k, j ≠ b → cpN V o b 81 j k = V j k := fun j k hj => by simp [cpN, hj]
  have dd : ∀ j : Nat, dOK (V j) → dOK (cpN V o b 81 j) := fun j hj => by
    by_cases e : j = b
    · subst e
      intro q hq
      rw [e1 _ (by omega), e1 _ (by omega), e1 _ (by omega)]
      exact hd q hq
    · intro q hq
      rw [e2 _ _ e, e2 _ _ e, e2 _ _ e]
      exact hj q hq
  refine ⟨fun j k => ?_, dd 1 h.2.1, dd 2 h.2.2.1, dd 3 h.2.2.2⟩
  by_cases e : j = b ∧ k < 81
  · obtain ⟨rfl, hk⟩ := e
    rw [e1 _ hk, ← hr]
    exact ⟨(h.1 o k).1, fun hh => by rw [prM_r hb] at hh; cases hh⟩
  · have : cpN V o b 81 j k = V j k := by
      unfold cpN
      rw [if_neg (by omega)]
    rw [this]
    exact h.1 j k
/-- what is watched is kept anew -/
theorem MI.upG {G V W : Nat → Nat → Int} (h : MI G V) {i k : Nat} {a : Int} (hW : W = up2 V i k a) {x y : Int} (hr : rgM i k = (x, y)) (ha : x ≤ a ∧ a ≤ y) (hf : mFree i k) : MI (up2 G i k a) W := by
  subst hW
  have dd : ∀ j : Nat, (j = 1 ∨ j = 2 ∨ j = 3) → dOK (V j) → dOK (up2 V i k a j) := fun j hj hd => by
    by_cases e : j = i
    · subst e
      have e1 : up2 V j k a j = up1 (V j) k a := by simp [up2]
      rw [e1]
      exact hd.up (by omega)
    · rw [up2_c _ _ e]; exact hd
  refine ⟨fun j q => ?_, dd 1 (by omega) h.2.1, dd 2 (by omega) h.2.2.1, dd 3 (by omega) h.2.2.2⟩
  by_cases e : j = i ∧ q = k
  · obtain ⟨rfl, rfl⟩ := e
    rw [up2_s, up2_s, hr]
    exact ⟨ha, fun _ => rfl⟩
  · rw [up2_n _ _ (by omega), up2_n _ _ (by omega)]
    exact h.1 j q
theorem jRem_lt {a b : Int} (ha : R64 a) (hb : R64 b) (h : ¬ b = 0) : (jRem a b).natAbs < b.natAbs := by
  have h1 : Int64.ofInt a / Int64.ofInt b = Int64.ofInt (a.tdiv b) := by
    refine Int64.toInt_inj.mp ?_
    rw [Int64.toInt_div, xj_toInt ha, xj_toInt hb, Int64.toInt_ofInt]
  have hm : (a.tmod b).natAbs < b.natAbs := by
    rw [Int.natAbs_tmod]
    exact Nat.mod_lt _ (by omega)
  have h2 : jRem a b = a.tmod b := by
    rw [jRem, h1, ← Int64.ofInt_mul, ← Int64.ofInt_sub, show a - a.tdiv b * b = a.tmod b by rw [Int.tmod_def, Int.mul_comm]]
    rw [xj_toInt ⟨by omega, by omega⟩]
  rw [h2]
  exact hm
