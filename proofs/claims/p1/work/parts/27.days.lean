theorem up2_self {α : Type} (f : Nat → Nat → α) (i k : Nat) : up2 f i k (f i k) = f := by
  funext j q
  unfold up2 up1
  by_cases hj : j = i
  · subst hj
    by_cases hq : q = k
    · subst hq; simp
    · simp [hq]
  · simp [hj]
theorem up2_two {α : Type} (f : Nat → Nat → α) (i k : Nat) (a z : α) : up2 (up2 f i k a) i k z = up2 f i k z := by
  funext j q
  unfold up2 up1
  by_cases hj : j = i
  · subst hj
    by_cases hq : q = k
    · subst hq; simp
    · simp [hq]
  · simp [hj]
def gbV (V : Nat → Nat → Int) (b : Nat) : Nat → Nat → Int := up2 (up2 (up2 V b 5 0) b 6 0) b 7 0
theorem gbV_VR {V : Nat → Nat → Int} {b : Nat} (h : VR V) : VR (gbV V b) := VR_up (VR_up (VR_up h (by decide)) (by decide)) (by decide)
theorem gbV_3 (V : Nat → Nat → Int) (b : Nat) : gbV V b b 3 = V b 3 := by
  unfold gbV
  rw [up2_n _ _ (Or.inr (by decide)), up2_n _ _ (Or.inr (by decide)), up2_n _ _ (Or.inr (by decide))]
theorem gbV_n {V : Nat → Nat → Int} {b j : Nat} (h : j ≠ b) : gbV V b j = V j := by
  unfold gbV
  rw [up2_c _ _ h, up2_c _ _ h, up2_c _ _ h]
theorem NPl_up {V : Nat → Nat → Int} {b i k : Nat} {a : Int} (h : NPl V b) (hi : i < b + 3 ∨ b + 11 ≤ i) : NPl (up2 V i k a) b := fun q hq => by rw [up2_c _ _ (by omega)]; exact h q hq
theorem NPe_up {V : Nat → Nat → Int} {b i k : Nat} {a : Int} (h : NPe V b) (hi : i < b + 11 ∨ b + 19 ≤ i) : NPe (up2 V i k a) b := fun q hq => by rw [up2_c _ _ (by omega)]; exact h q hq
theorem NPl_gb {V : Nat → Nat → Int} {b i : Nat} (h : NPl V b) (hi : i < b + 3 ∨ b + 11 ≤ i) : NPl (gbV V i) b := NPl_up (NPl_up (NPl_up h hi) hi) hi
theorem NPe_gb {V : Nat → Nat → Int} {b i : Nat} (h : NPe V b) (hi : i < b + 11 ∨ b + 19 ≤ i) : NPe (gbV V i) b := NPe_up (NPe_up (NPe_up h hi) hi) hi
theorem NPl_cp {V : Nat → Nat → Int} {o b : Nat} (h : NPl V o) : NPl (laCp V o b) b := fun q hq => by rw [laCp_p hq (by decide)]; exact h q hq
theorem NPe_cp {V : Nat → Nat → Int} {o b : Nat} (h : NPe V o) : NPe (laCp V o b) b := fun q hq => by rw [laCp_e hq (by decide)]; exact h q hq
theorem dX3_oneDay_0 : decode cX3_oneDay 0 = .ok (.iconst 0, 1) := by decide +kernel
theorem dX3_oneDay_1 : decode cX3_oneDay 1 = .ok (.istore_n 2, 1) := by decide +kernel
theorem dX3_oneDay_2 : decode cX3_oneDay 2 = .ok (.iload_n 2, 1) := by decide +kernel
theorem dX3_oneDay_3 : decode cX3_oneDay 3 = .ok (.bipush 8, 2) := by decide +kernel
theorem dX3_oneDay_5 : decode cX3_oneDay 5 = .ok (.if_icmp .ge 57, 3) := by decide +kernel
theorem dX3_oneDay_8 : decode cX3_oneDay 8 = .ok (.aload_n 0, 1) := by decide +kernel
theorem dX3_oneDay_9 : decode cX3_oneDay 9 = .ok (.getfield 19, 3) := by decide +kernel
theorem dX3_oneDay_12 : decode cX3_oneDay 12 = .ok (.iload_n 2, 1) := by decide +kernel
theorem dX3_oneDay_13 : decode cX3_oneDay 13 = .ok (.aaload, 1) := by decide +kernel
theorem dX3_oneDay_14 : decode cX3_oneDay 14 = .ok (.getfield 42, 3) := by decide +kernel
theorem dX3_oneDay_17 : decode cX3_oneDay 17 = .ok (.ifCond .eq 39, 3) := by decide +kernel
theorem dX3_oneDay_56 : decode cX3_oneDay 56 = .ok (.iinc 2 1, 3) := by decide +kernel
theorem dX3_oneDay_59 : decode cX3_oneDay 59 = .ok (.goto (-57), 3) := by decide +kernel
theorem dX3_oneDay_62 : decode cX3_oneDay 62 = .ok (.iconst 0, 1) := by decide +kernel
theorem dX3_oneDay_63 : decode cX3_oneDay 63 = .ok (.istore_n 2, 1) := by decide +kernel
theorem dX3_oneDay_64 : decode cX3_oneDay 64 = .ok (.iload_n 2, 1) := by decide +kernel
theorem dX3_oneDay_65 : decode cX3_oneDay 65 = .ok (.iconst 4, 1) := by decide +kernel
theorem dX3_oneDay_66 : decode cX3_oneDay 66 = .ok (.if_icmp .ge 56, 3) := by decide +kernel
theorem dX3_oneDay_69 : decode cX3_oneDay 69 = .ok (.aload_n 0, 1) := by decide +kernel
theorem dX3_oneDay_70 : decode cX3_oneDay 70 = .ok (.iload_n 2, 1) := by decide +kernel
theorem dX3_oneDay_71 : decode cX3_oneDay 71 = .ok (.invokevirtual 88, 3) := by decide +kernel
theorem dX3_oneDay_74 : decode cX3_oneDay 74 = .ok (.ifCond .eq 42, 3) := by decide +kernel
theorem dX3_oneDay_116 : decode cX3_oneDay 116 = .ok (.iinc 2 1, 3) := by decide +kernel
theorem dX3_oneDay_119 : decode cX3_oneDay 119 = .ok (.goto (-55), 3) := by decide +kernel
theorem dX3_oneDay_122 : decode cX3_oneDay 122 = .ok (.aload_n 0, 1) := by decide +kernel
theorem dX3_oneDay_123 : decode cX3_oneDay 123 = .ok (.dup, 1) := by decide +kernel
theorem dX3_oneDay_124 : decode cX3_oneDay 124 = .ok (.getfield 39, 3) := by decide +kernel
theorem dX3_oneDay_127 : decode cX3_oneDay 127 = .ok (.iconst 1, 1) := by decide +kernel
theorem dX3_oneDay_128 : decode cX3_oneDay 128 = .ok (.iadd, 1) := by decide +kernel
theorem dX3_oneDay_129 : decode cX3_oneDay 129 = .ok (.putfield 39, 3) := by decide +kernel
theorem dX3_oneDay_132 : decode cX3_oneDay 132 = .ok (.return_, 1) := by decide +kernel
set_option maxHeartbeats 4000000 in
set_option maxRecDepth 100000 in
theorem f_oneDay (l : Launch) (D : va_G) (cy : Nat → ClassId) (ad : Nat → Nat) (V J : Nat → Nat → Int) (Rr : Nat → Nat → Nat) (hV : VR V) (hJ : VJ J) (b : Nat) (hb : isLa b) (hnp : NPl V b) (hne : NPe V b) (hdy : 0 ≤ V b 3 ∧ V b 3 < 9999) : xMv l D (xTY cy) yX3_oneDay cX3_oneDay 4 none 3 63 0 0 [.ref (ad b), .ref (ad 60)] (XW cy ad V J Rr) (fun u : xS => XW cy ad u.1 u.2.1 u.2.2) (fun u => u = (up2 V b 3 (V b 3 + 1), J, Rr)) := by
  refine xMv.mk (lv0 := [(0, .ref (ad b)), (1, .ref (ad 60))]) (by decide) rfl (Nat.le_of_ble_eq_true rfl) (fun p e s m below meth c A C hr hnm hAe => ?_)
  have C : xC2 p s m _ meth c D A s.heap 4 cX3_oneDay RX3 (xTY cy) := C
  refine x_iconst C.1 (n := 0) dX3_oneDay_0 ?_
  refine x_istore_n C.1 (lv' := [(2, vI 0), (0, .ref (ad b)), (1, .ref (ad 60))]) dX3_oneDay_1 (by decide) rfl ?_
  refine x_iload_n C.1 dX3_oneDay_2 0 rfl ?_
  refine x_bipush C.1 (n := 8) dX3_oneDay_3 ?_
  refine x_icmp_ge_f C.1 (tgt := 62) dX3_oneDay_5 (by decide) (by decide) (by decide) (by decide) ?_
  refine x_aload_n C.1 dX3_oneDay_8 1 rfl ?_
  refine x_getA C (N := 129) (i := b) (by omega) (xd_L hb) vc_X3 wx_X3 1 (by decide) wf_X3_19 (a := b + 2) rfl dX3_oneDay_9 ?_
  refine x_iload_n C.1 dX3_oneDay_12 0 rfl ?_
  refine x_aldS C (N := 129) (i := b + 2) (q := 0) (t := 5) rfl (by omega) (xd_Lb hb) (by decide) (by decide) dX3_oneDay_13 (a := b + 11 + 1 * 0) rfl ?_
  refine x_getI C (N := 129) (i := b + 11 + 1 * 0) (isPe_L hb (q := 0) (by omega)).1 (isPe_L hb (q := 0) (by omega)).2 vc_X4 wx_X4 0 (by decide) wf_X3_42 rfl dX3_oneDay_14 (a := 0) (hne 0 (by decide)) ?_
  refine x_if_eq_t C.1 (tgt := 56) dX3_oneDay_17 (by decide) (by decide) (by decide) ?_
  refine x_iinc C.1 (v := 1) (lv' := [(2, vI 1), (0, .ref (ad b)), (1, .ref (ad 60))]) (by decide) dX3_oneDay_56 0 rfl (by decide) rfl ?_
  refine x_goto C.1 (tgt := 2) dX3_oneDay_59 (by decide) ?_
  refine x_iload_n C.1 dX3_oneDay_2 0 rfl ?_
  refine x_bipush C.1 (n := 8) dX3_oneDay_3 ?_
  refine x_icmp_ge_f C.1 (tgt := 62) dX3_oneDay_5 (by decide) (by decide) (by decide) (by decide) ?_
  refine x_aload_n C.1 dX3_oneDay_8 1 rfl ?_
  refine x_getA C (N := 129) (i := b) (by omega) (xd_L hb) vc_X3 wx_X3 1 (by decide) wf_X3_19 (a := b + 2) rfl dX3_oneDay_9 ?_
  refine x_iload_n C.1 dX3_oneDay_12 0 rfl ?_
  refine x_aldS C (N := 129) (i := b + 2) (q := 1) (t := 5) rfl (by omega) (xd_Lb hb) (by decide) (by decide) dX3_oneDay_13 (a := b + 11 + 1 * 1) rfl ?_
  refine x_getI C (N := 129) (i := b + 11 + 1 * 1) (isPe_L hb (q := 1) (by omega)).1 (isPe_L hb (q := 1) (by omega)).2 vc_X4 wx_X4 0 (by decide) wf_X3_42 rfl dX3_oneDay_14 (a := 0) (hne 1 (by decide)) ?_
  refine x_if_eq_t C.1 (tgt := 56) dX3_oneDay_17 (by decide) (by decide) (by decide) ?_
  refine x_iinc C.1 (v := 2) (lv' := [(2, vI 2), (0, .ref (ad b)), (1, .ref (ad 60))]) (by decide) dX3_oneDay_56 0 rfl (by decide) rfl ?_
  refine x_goto C.1 (tgt := 2) dX3_oneDay_59 (by decide) ?_
  refine x_iload_n C.1 dX3_oneDay_2 0 rfl ?_
  refine x_bipush C.1 (n := 8) dX3_oneDay_3 ?_
  refine x_icmp_ge_f C.1 (tgt := 62) dX3_oneDay_5 (by decide) (by decide) (by decide) (by decide) ?_
  refine x_aload_n C.1 dX3_oneDay_8 1 rfl ?_
  refine x_getA C (N := 129) (i := b) (by omega) (xd_L hb) vc_X3 wx_X3 1 (by decide) wf_X3_19 (a := b + 2) rfl dX3_oneDay_9 ?_
  refine x_iload_n C.1 dX3_oneDay_12 0 rfl ?_
  refine x_aldS C (N := 129) (i := b + 2) (q := 2) (t := 5) rfl (by omega) (xd_Lb hb) (by decide) (by decide) dX3_oneDay_13 (a := b + 11 + 1 * 2) rfl ?_
  refine x_getI C (N := 129) (i := b + 11 + 1 * 2) (isPe_L hb (q := 2) (by omega)).1 (isPe_L hb (q := 2) (by omega)).2 vc_X4 wx_X4 0 (by decide) wf_X3_42 rfl dX3_oneDay_14 (a := 0) (hne 2 (by decide)) ?_
  refine x_if_eq_t C.1 (tgt := 56) dX3_oneDay_17 (by decide) (by decide) (by decide) ?_
  refine x_iinc C.1 (v := 3) (lv' := [(2, vI 3), (0, .ref (ad b)), (1, .ref (ad 60))]) (by decide) dX3_oneDay_56 0 rfl (by decide) rfl ?_
  refine x_goto C.1 (tgt := 2) dX3_oneDay_59 (by decide) ?_
  refine x_iload_n C.1 dX3_oneDay_2 0 rfl ?_
  refine x_bipush C.1 (n := 8) dX3_oneDay_3 ?_
  refine x_icmp_ge_f C.1 (tgt := 62) dX3_oneDay_5 (by decide) (by decide) (by decide) (by decide) ?_
  refine x_aload_n C.1 dX3_oneDay_8 1 rfl ?_
  refine x_getA C (N := 129) (i := b) (by omega) (xd_L hb) vc_X3 wx_X3 1 (by decide) wf_X3_19 (a := b + 2) rfl dX3_oneDay_9 ?_
  refine x_iload_n C.1 dX3_oneDay_12 0 rfl ?_
  refine x_aldS C (N := 129) (i := b + 2) (q := 3) (t := 5) rfl (by omega) (xd_Lb hb) (by decide) (by decide) dX3_oneDay_13 (a := b + 11 + 1 * 3) rfl ?_
  refine x_getI C (N := 129) (i := b + 11 + 1 * 3) (isPe_L hb (q := 3) (by omega)).1 (isPe_L hb (q := 3) (by omega)).2 vc_X4 wx_X4 0 (by decide) wf_X3_42 rfl dX3_oneDay_14 (a := 0) (hne 3 (by decide)) ?_
  refine x_if_eq_t C.1 (tgt := 56) dX3_oneDay_17 (by decide) (by decide) (by decide) ?_
  refine x_iinc C.1 (v := 4) (lv' := [(2, vI 4), (0, .ref (ad b)), (1, .ref (ad 60))]) (by decide) dX3_oneDay_56 0 rfl (by decide) rfl ?_
  refine x_goto C.1 (tgt := 2) dX3_oneDay_59 (by decide) ?_
  refine x_iload_n C.1 dX3_oneDay_2 0 rfl ?_
  refine x_bipush C.1 (n := 8) dX3_oneDay_3 ?_
  refine x_icmp_ge_f C.1 (tgt := 62) dX3_oneDay_5 (by decide) (by decide) (by decide) (by decide) ?_
  refine x_aload_n C.1 dX3_oneDay_8 1 rfl ?_
  refine x_getA C (N := 129) (i := b) (by omega) (xd_L hb) vc_X3 wx_X3 1 (by decide) wf_X3_19 (a := b + 2) rfl dX3_oneDay_9 ?_
  refine x_iload_n C.1 dX3_oneDay_12 0 rfl ?_
  refine x_aldS C (N := 129) (i := b + 2) (q := 4) (t := 5) rfl (by omega) (xd_Lb hb) (by decide) (by decide) dX3_oneDay_13 (a := b + 11 + 1 * 4) rfl ?_
  refine x_getI C (N := 129) (i := b + 11 + 1 * 4) (isPe_L hb (q := 4) (by omega)).1 (isPe_L hb (q := 4) (by omega)).2 vc_X4 wx_X4 0 (by decide) wf_X3_42 rfl dX3_oneDay_14 (a := 0) (hne 4 (by decide)) ?_
  refine x_if_eq_t C.1 (tgt := 56) dX3_oneDay_17 (by decide) (by decide) (by decide) ?_
  refine x_iinc C.1 (v := 5) (lv' := [(2, vI 5), (0, .ref (ad b)), (1, .ref (ad 60))]) (by decide) dX3_oneDay_56 0 rfl (by decide) rfl ?_
  refine x_goto C.1 (tgt := 2) dX3_oneDay_59 (by decide) ?_
  refine x_iload_n C.1 dX3_oneDay_2 0 rfl ?_
  refine x_bipush C.1 (n := 8) dX3_oneDay_3 ?_
  refine x_icmp_ge_f C.1 (tgt := 62) dX3_oneDay_5 (by decide) (by decide) (by decide) (by decide) ?_
  refine x_aload_n C.1 dX3_oneDay_8 1 rfl ?_
  refine x_getA C (N := 129) (i := b) (by omega) (xd_L hb) vc_X3 wx_X3 1 (by decide) wf_X3_19 (a := b + 2) rfl dX3_oneDay_9 ?_
  refine x_iload_n C.1 dX3_oneDay_12 0 rfl ?_
  refine x_aldS C (N := 129) (i := b + 2) (q := 5) (t := 5) rfl (by omega) (xd_Lb hb) (by decide) (by decide) dX3_oneDay_13 (a := b + 11 + 1 * 5) rfl ?_
  refine x_getI C (N := 129) (i := b + 11 + 1 * 5) (isPe_L hb (q := 5) (by omega)).1 (isPe_L hb (q := 5) (by omega)).2 vc_X4 wx_X4 0 (by decide) wf_X3_42 rfl dX3_oneDay_14 (a := 0) (hne 5 (by decide)) ?_
  refine x_if_eq_t C.1 (tgt := 56) dX3_oneDay_17 (by decide) (by decide) (by decide) ?_
  refine x_iinc C.1 (v := 6) (lv' := [(2, vI 6), (0, .ref (ad b)), (1, .ref (ad 60))]) (by decide) dX3_oneDay_56 0 rfl (by decide) rfl ?_
  refine x_goto C.1 (tgt := 2) dX3_oneDay_59 (by decide) ?_
  refine x_iload_n C.1 dX3_oneDay_2 0 rfl ?_
  refine x_bipush C.1 (n := 8) dX3_oneDay_3 ?_
  refine x_icmp_ge_f C.1 (tgt := 62) dX3_oneDay_5 (by decide) (by decide) (by decide) (by decide) ?_
  refine x_aload_n C.1 dX3_oneDay_8 1 rfl ?_
  refine x_getA C (N := 129) (i := b) (by omega) (xd_L hb) vc_X3 wx_X3 1 (by decide) wf_X3_19 (a := b + 2) rfl dX3_oneDay_9 ?_
  refine x_iload_n C.1 dX3_oneDay_12 0 rfl ?_
  refine x_aldS C (N := 129) (i := b + 2) (q := 6) (t := 5) rfl (by omega) (xd_Lb hb) (by decide) (by decide) dX3_oneDay_13 (a := b + 11 + 1 * 6) rfl ?_
  refine x_getI C (N := 129) (i := b + 11 + 1 * 6) (isPe_L hb (q := 6) (by omega)).1 (isPe_L hb (q := 6) (by omega)).2 vc_X4 wx_X4 0 (by decide) wf_X3_42 rfl dX3_oneDay_14 (a := 0) (hne 6 (by decide)) ?_
  refine x_if_eq_t C.1 (tgt := 56) dX3_oneDay_17 (by decide) (by decide) (by decide) ?_
  refine x_iinc C.1 (v := 7) (lv' := [(2, vI 7), (0, .ref (ad b)), (1, .ref (ad 60))]) (by decide) dX3_oneDay_56 0 rfl (by decide) rfl ?_
  refine x_goto C.1 (tgt := 2) dX3_oneDay_59 (by decide) ?_
  refine x_iload_n C.1 dX3_oneDay_2 0 rfl ?_
  refine x_bipush C.1 (n := 8) dX3_oneDay_3 ?_
  refine x_icmp_ge_f C.1 (tgt := 62) dX3_oneDay_5 (by decide) (by decide) (by decide) (by decide) ?_
  refine x_aload_n C.1 dX3_oneDay_8 1 rfl ?_
  refine x_getA C (N := 129) (i := b) (by omega) (xd_L hb) vc_X3 wx_X3 1 (by decide) wf_X3_19 (a := b + 2) rfl dX3_oneDay_9 ?_
  refine x_iload_n C.1 dX3_oneDay_12 0 rfl ?_
  refine x_aldS C (N := 129) (i := b + 2) (q := 7) (t := 5) rfl (by omega) (xd_Lb hb) (by decide) (by decide) dX3_oneDay_13 (a := b + 11 + 1 * 7) rfl ?_
  refine x_getI C (N := 129) (i := b + 11 + 1 * 7) (isPe_L hb (q := 7) (by omega)).1 (isPe_L hb (q := 7) (by omega)).2 vc_X4 wx_X4 0 (by decide) wf_X3_42 rfl dX3_oneDay_14 (a := 0) (hne 7 (by decide)) ?_
  refine x_if_eq_t C.1 (tgt := 56) dX3_oneDay_17 (by decide) (by decide) (by decide) ?_
  refine x_iinc C.1 (v := 8) (lv' := [(2, vI 8), (0, .ref (ad b)), (1, .ref (ad 60))]) (by decide) dX3_oneDay_56 0 rfl (by decide) rfl ?_
  refine x_goto C.1 (tgt := 2) dX3_oneDay_59 (by decide) ?_
  refine x_iload_n C.1 dX3_oneDay_2 0 rfl ?_
  refine x_bipush C.1 (n := 8) dX3_oneDay_3 ?_
  refine x_icmp_ge_t C.1 (tgt := 62) dX3_oneDay_5 (by decide) (by decide) (by decide) (by decide) ?_
  refine x_iconst C.1 (n := 0) dX3_oneDay_62 ?_
  refine x_istore_n C.1 (lv' := [(2, vI 0), (0, .ref (ad b)), (1, .ref (ad 60))]) dX3_oneDay_63 (by decide) rfl ?_
  refine x_iload_n C.1 dX3_oneDay_64 0 rfl ?_
  refine x_iconst C.1 (n := 4) dX3_oneDay_65 ?_
  refine x_icmp_ge_f C.1 (tgt := 122) dX3_oneDay_66 (by decide) (by decide) (by decide) (by decide) ?_
  refine x_aload_n C.1 dX3_oneDay_69 1 rfl ?_
  refine x_iload_n C.1 dX3_oneDay_70 0 rfl ?_
  refine x_callVi C (As := [vI 0]) (rest := []) b (xw_at (N := 129) (i := b) (by omega) (xd_L hb)) vc_X3 (c_isAlive0 l D cy ad V J Rr hV hJ b hb 0 (by decide) hnp) (l1 := []) (l2 := []) (List.append_nil _).symm (w2 := fun _ => XW cy ad V J Rr) (fun _ => List.append_nil _) rfl wm_yX3_isAlive wn_X3 wl_X3_88 wi_yX3_isAlive we_yX3_isAlive hd_yX3_isAlive rfl ⟨Nat.le_of_ble_eq_true rfl, Nat.le_of_ble_eq_true rfl⟩ (Nat.le_of_ble_eq_true rfl) ⟨Nat.le_of_ble_eq_true rfl, Nat.le_of_ble_eq_true rfl⟩ dX3_oneDay_71 (fun r1 u1 hr1 h1 => ?_)
  obtain rfl := h1
  refine x_if_eq_t C.1 (tgt := 116) dX3_oneDay_74 (by decide) (by decide) (by decide) ?_
  refine x_iinc C.1 (v := 1) (lv' := [(2, vI 1), (0, .ref (ad b)), (1, .ref (ad 60))]) (by decide) dX3_oneDay_116 0 rfl (by decide) rfl ?_
  refine x_goto C.1 (tgt := 64) dX3_oneDay_119 (by decide) ?_
  refine x_iload_n C.1 dX3_oneDay_64 0 rfl ?_
  refine x_iconst C.1 (n := 4) dX3_oneDay_65 ?_
  refine x_icmp_ge_f C.1 (tgt := 122) dX3_oneDay_66 (by decide) (by decide) (by decide) (by decide) ?_
  refine x_aload_n C.1 dX3_oneDay_69 1 rfl ?_
  refine x_iload_n C.1 dX3_oneDay_70 0 rfl ?_
  refine x_callVi C (As := [vI 1]) (rest := []) b (xw_at (N := 129) (i := b) (by omega) (xd_L hb)) vc_X3 (c_isAlive0 l D cy ad V J Rr hV hJ b hb 1 (by decide) hnp) (l1 := []) (l2 := []) (List.append_nil _).symm (w2 := fun _ => XW cy ad V J Rr) (fun _ => List.append_nil _) rfl wm_yX3_isAlive wn_X3 wl_X3_88 wi_yX3_isAlive we_yX3_isAlive hd_yX3_isAlive rfl ⟨Nat.le_of_ble_eq_true rfl, Nat.le_of_ble_eq_true rfl⟩ (Nat.le_of_ble_eq_true rfl) ⟨Nat.le_of_ble_eq_true rfl, Nat.le_of_ble_eq_true rfl⟩ dX3_oneDay_71 (fun r2 u2 hr2 h2 => ?_)
  obtain rfl := h2
  refine x_if_eq_t C.1 (tgt := 116) dX3_oneDay_74 (by decide) (by decide) (by decide) ?_
  refine x_iinc C.1 (v := 2) (lv' := [(2, vI 2), (0, .ref (ad b)), (1, .ref (ad 60))]) (by decide) dX3_oneDay_116 0 rfl (by decide) rfl ?_
  refine x_goto C.1 (tgt := 64) dX3_oneDay_119 (by decide) ?_
  refine x_iload_n C.1 dX3_oneDay_64 0 rfl ?_
  refine x_iconst C.1 (n := 4) dX3_oneDay_65 ?_
  refine x_icmp_ge_f C.1 (tgt := 122) dX3_oneDay_66 (by decide) (by decide) (by decide) (by decide) ?_
  refine x_aload_n C.1 dX3_oneDay_69 1 rfl ?_
  refine x_iload_n C.1 dX3_oneDay_70 0 rfl ?_
  refine x_callVi C (As := [vI 2]) (rest := []) b (xw_at (N := 129) (i := b) (by omega) (xd_L hb)) vc_X3 (c_isAlive0 l D cy ad V J Rr hV hJ b hb 2 (by decide) hnp) (l1 := []) (l2 := []) (List.append_nil _).symm (w2 := fun _ => XW cy ad V J Rr) (fun _ => List.append_nil _) rfl wm_yX3_isAlive wn_X3 wl_X3_88 wi_yX3_isAlive we_yX3_isAlive hd_yX3_isAlive rfl ⟨Nat.le_of_ble_eq_true rfl, Nat.le_of_ble_eq_true rfl⟩ (Nat.le_of_ble_eq_true rfl) ⟨Nat.le_of_ble_eq_true rfl, Nat.le_of_ble_eq_true rfl⟩ dX3_oneDay_71 (fun r3 u3 hr3 h3 => ?_)
  obtain rfl := h3
  refine x_if_eq_t C.1 (tgt := 116) dX3_oneDay_74 (by decide) (by decide) (by decide) ?_
  refine x_iinc C.1 (v := 3) (lv' := [(2, vI 3), (0, .ref (ad b)), (1, .ref (ad 60))]) (by decide) dX3_oneDay_116 0 rfl (by decide) rfl ?_
  refine x_goto C.1 (tgt := 64) dX3_oneDay_119 (by decide) ?_
  refine x_iload_n C.1 dX3_oneDay_64 0 rfl ?_
  refine x_iconst C.1 (n := 4) dX3_oneDay_65 ?_
  refine x_icmp_ge_f C.1 (tgt := 122) dX3_oneDay_66 (by decide) (by decide) (by decide) (by decide) ?_
  refine x_aload_n C.1 dX3_oneDay_69 1 rfl ?_
  refine x_iload_n C.1 dX3_oneDay_70 0 rfl ?_
  refine x_callVi C (As := [vI 3]) (rest := []) b (xw_at (N := 129) (i := b) (by omega) (xd_L hb)) vc_X3 (c_isAlive0 l D cy ad V J Rr hV hJ b hb 3 (by decide) hnp) (l1 := []) (l2 := []) (List.append_nil _).symm (w2 := fun _ => XW cy ad V J Rr) (fun _ => List.append_nil _) rfl wm_yX3_isAlive wn_X3 wl_X3_88 wi_yX3_isAlive we_yX3_isAlive hd_yX3_isAlive rfl ⟨Nat.le_of_ble_eq_true rfl, Nat.le_of_ble_eq_true rfl⟩ (Nat.le_of_ble_eq_true rfl) ⟨Nat.le_of_ble_eq_true rfl, Nat.le_of_ble_eq_true rfl⟩ dX3_oneDay_71 (fun r4 u4 hr4 h4 => ?_)
  obtain rfl := h4
  refine x_if_eq_t C.1 (tgt := 116) dX3_oneDay_74 (by decide) (by decide) (by decide) ?_
  refine x_iinc C.1 (v := 4) (lv' := [(2, vI 4), (0, .ref (ad b)), (1, .ref (ad 60))]) (by decide) dX3_oneDay_116 0 rfl (by decide) rfl ?_
  refine x_goto C.1 (tgt := 64) dX3_oneDay_119 (by decide) ?_
  refine x_iload_n C.1 dX3_oneDay_64 0 rfl ?_
  refine x_iconst C.1 (n := 4) dX3_oneDay_65 ?_
  refine x_icmp_ge_t C.1 (tgt := 122) dX3_oneDay_66 (by decide) (by decide) (by decide) (by decide) ?_
  refine x_aload_n C.1 dX3_oneDay_122 1 rfl ?_
  refine x_dup C.1 dX3_oneDay_123 rfl ?_
  refine x_getI C (N := 129) (i := b) (by omega) (xd_L hb) vc_X3 wx_X3 3 (by decide) wf_X3_39 rfl dX3_oneDay_124 (a := V b 3) rfl ?_
  refine x_iconst C.1 (n := 1) dX3_oneDay_127 ?_
  refine x_iadd C.1 (v := (V b 3) + 1) rfl dX3_oneDay_128 ?_
  refine x_putI C (N := 129) (i := b) (by omega) (xd_L hb) vc_X3 wx_X3 3 (by decide) wf_X3_39 tyX3 tyX3_ok nmX3 rfl (tyX3_ok 3 (by decide)) rfl dX3_oneDay_129 rfl rfl ?_
  exact x_vret (S := xS) (post := fun u => u = (up2 V b 3 (V b 3 + 1), J, Rr)) (w1 := fun u : xS => XW cy ad u.1 u.2.1 u.2.2) C hr rfl dX3_oneDay_132 ((up2 V b 3 ((V b 3) + 1)), J, Rr) rfl rfl
theorem hd_yX3_oneDay : yX3_oneDay.cls ≠ "java/lang/invoke/MethodHandle" ∧ yX3_oneDay.cls ≠ "java/lang/invoke/VarHandle" ∧ (parseMethodDescriptor yX3_oneDay.desc).map (fun d => d.parameters.length) = some 1 := by decide +kernel
theorem dX3_goBy_0 : decode cX3_goBy 0 = .ok (.aload_n 0, 1) := by decide +kernel
theorem dX3_goBy_1 : decode cX3_goBy 1 = .ok (.iconst 0, 1) := by decide +kernel
theorem dX3_goBy_2 : decode cX3_goBy 2 = .ok (.putfield 69, 3) := by decide +kernel
theorem dX3_goBy_5 : decode cX3_goBy 5 = .ok (.aload_n 0, 1) := by decide +kernel
theorem dX3_goBy_6 : decode cX3_goBy 6 = .ok (.iconst 0, 1) := by decide +kernel
theorem dX3_goBy_7 : decode cX3_goBy 7 = .ok (.putfield 70, 3) := by decide +kernel
theorem dX3_goBy_10 : decode cX3_goBy 10 = .ok (.aload_n 0, 1) := by decide +kernel
theorem dX3_goBy_11 : decode cX3_goBy 11 = .ok (.iconst 0, 1) := by decide +kernel
theorem dX3_goBy_12 : decode cX3_goBy 12 = .ok (.putfield 73, 3) := by decide +kernel
theorem dX3_goBy_15 : decode cX3_goBy 15 = .ok (.iconst 0, 1) := by decide +kernel
theorem dX3_goBy_16 : decode cX3_goBy 16 = .ok (.istore_n 3, 1) := by decide +kernel
theorem dX3_goBy_17 : decode cX3_goBy 17 = .ok (.iload_n 3, 1) := by decide +kernel
theorem dX3_goBy_18 : decode cX3_goBy 18 = .ok (.iload_n 2, 1) := by decide +kernel
theorem dX3_goBy_19 : decode cX3_goBy 19 = .ok (.if_icmp .ge 24, 3) := by decide +kernel
theorem dX3_goBy_22 : decode cX3_goBy 22 = .ok (.aload_n 0, 1) := by decide +kernel
theorem dX3_goBy_23 : decode cX3_goBy 23 = .ok (.getfield 39, 3) := by decide +kernel
theorem dX3_goBy_26 : decode cX3_goBy 26 = .ok (.sipush 9999, 3) := by decide +kernel
theorem dX3_goBy_29 : decode cX3_goBy 29 = .ok (.if_icmp .ge 14, 3) := by decide +kernel
theorem dX3_goBy_32 : decode cX3_goBy 32 = .ok (.aload_n 0, 1) := by decide +kernel
theorem dX3_goBy_33 : decode cX3_goBy 33 = .ok (.aload_n 1, 1) := by decide +kernel
theorem dX3_goBy_34 : decode cX3_goBy 34 = .ok (.invokevirtual 76, 3) := by decide +kernel
theorem dX3_goBy_37 : decode cX3_goBy 37 = .ok (.iinc 3 1, 3) := by decide +kernel
theorem dX3_goBy_40 : decode cX3_goBy 40 = .ok (.goto (-23), 3) := by decide +kernel
theorem dX3_goBy_43 : decode cX3_goBy 43 = .ok (.return_, 1) := by decide +kernel
set_option maxHeartbeats 4000000 in
set_option maxRecDepth 100000 in
theorem f_goBy (l : Launch) (D : va_G) (cy : Nat → ClassId) (ad : Nat → Nat) (V J : Nat → Nat → Int) (Rr : Nat → Nat → Nat) (hV : VR V) (hJ : VJ J) (b : Nat) (hb : isLa b) (x1 : Int) (hx1 : R32 x1) (hnp : NPl V b) (hne : NPe V b) (hdy : 0 ≤ V b 3 ∧ V b 3 ≤ 9999) : xMv l D (xTY cy) yX3_goBy cX3_goBy 4 none 4 86 0 0 [.ref (ad b), .ref (ad 60), vI x1] (XW cy ad V J Rr) (fun u : xS => XW cy ad u.1 u.2.1 u.2.2) (fun u => ∃ d : Int, 0 ≤ d ∧ d ≤ 9999 ∧ u = (up2 (gbV V b) b 3 d, J, Rr)) := by
  refine xMv.mk (lv0 := [(0, .ref (ad b)), (1, .ref (ad 60)), (2, vI x1)]) (by decide) rfl (Nat.le_of_ble_eq_true rfl) (fun p e s m below meth c A C hr hnm hAe => ?_)
  have C : xC2 p s m _ meth c D A s.heap 4 cX3_goBy RX3 (xTY cy) := C
  refine x_aload_n C.1 dX3_goBy_0 0 rfl ?_
  refine x_iconst C.1 (n := 0) dX3_goBy_1 ?_
  refine x_putI C (N := 129) (i := b) (by omega) (xd_L hb) vc_X3 wx_X3 5 (by decide) wf_X3_69 tyX3 tyX3_ok nmX3 rfl (tyX3_ok 5 (by decide)) rfl dX3_goBy_2 rfl rfl ?_
  refine x_aload_n C.1 dX3_goBy_5 0 rfl ?_
  refine x_iconst C.1 (n := 0) dX3_goBy_6 ?_
  refine x_putI C (N := 129) (i := b) (by omega) (xd_L hb) vc_X3 wx_X3 6 (by decide) wf_X3_70 tyX3 tyX3_ok nmX3 rfl (tyX3_ok 6 (by decide)) rfl dX3_goBy_7 rfl rfl ?_
  refine x_aload_n C.1 dX3_goBy_10 0 rfl ?_
  refine x_iconst C.1 (n := 0) dX3_goBy_11 ?_
  refine x_putI C (N := 129) (i := b) (by omega) (xd_L hb) vc_X3 wx_X3 7 (by decide) wf_X3_73 tyX3 tyX3_ok nmX3 rfl (tyX3_ok 7 (by decide)) rfl dX3_goBy_12 rfl rfl ?_
  refine x_iconst C.1 (n := 0) dX3_goBy_15 ?_
  refine x_istore_n C.1 (lv' := [(3, vI 0), (0, .ref (ad b)), (1, .ref (ad 60)), (2, vI x1)]) dX3_goBy_16 (by decide) rfl ?_
  refine x_loop (I := fun x : Nat × Int => match x with | (zi, zd) => zi ≤ 2147483647 ∧ 0 ≤ zd ∧ zd ≤ 9999) (μ := fun x : Nat × Int => match x with | (zi, zd) => (x1 - zi).toNat) (wsf := fun x : Nat × Int => match x with | (zi, zd) => XW cy ad (up2 (gbV V b) b 3 zd) J Rr) (lvf := fun x : Nat × Int => match x with | (zi, zd) => [(3, vI (zi : Int)), (0, .ref (ad b)), (1, .ref (ad 60)), (2, vI x1)]) (fun x hI ih1 => ?_) (0, V b 3) ⟨by omega, by omega, by omega⟩ (by (try dsimp only); rw [← gbV_3 V b, up2_self]; rfl) rfl
  obtain ⟨zi, zd⟩ := x
  obtain ⟨hz1, hz2, hz3⟩ := hI
  try dsimp only
  refine x_iload_n C.1 dX3_goBy_17 0 rfl ?_
  refine x_iload_n C.1 dX3_goBy_18 3 rfl ?_
  refine x_icmp_ge C.1 (tgt := 43) dX3_goBy_19 (by decide) (by omega) hx1 (fun c19_2 => ?_) (fun c19_2 => ?_)
  · exact x_vret (S := xS) (post := fun u => ∃ d : Int, 0 ≤ d ∧ d ≤ 9999 ∧ u = (up2 (gbV V b) b 3 d, J, Rr)) (w1 := fun u : xS => XW cy ad u.1 u.2.1 u.2.2) C hr rfl dX3_goBy_43 ((up2 (gbV V b) b 3 zd), J, Rr) rfl ⟨zd, hz2, hz3, rfl⟩
  · refine x_aload_n C.1 dX3_goBy_22 1 rfl ?_
    refine x_getI C (N := 129) (i := b) (by omega) (xd_L hb) vc_X3 wx_X3 3 (by decide) wf_X3_39 rfl dX3_goBy_23 (a := zd) (up2_s _ _ _ _) ?_
    refine x_sipush C.1 (n := 9999) dX3_goBy_26 ?_
    refine x_icmp_ge C.1 (tgt := 43) dX3_goBy_29 (by decide) (by omega) (by decide) (fun c29_3 => ?_) (fun c29_3 => ?_)
    · exact x_vret (S := xS) (post := fun u => ∃ d : Int, 0 ≤ d ∧ d ≤ 9999 ∧ u = (up2 (gbV V b) b 3 d, J, Rr)) (w1 := fun u : xS => XW cy ad u.1 u.2.1 u.2.2) C hr rfl dX3_goBy_43 ((up2 (gbV V b) b 3 zd), J, Rr) rfl ⟨zd, hz2, hz3, rfl⟩
    · refine x_aload_n C.1 dX3_goBy_32 1 rfl ?_
      refine x_aload_n C.1 dX3_goBy_33 2 rfl ?_
      refine x_callVv C (As := [.ref (ad 60)]) (rest := []) b (xw_at (N := 129) (i := b) (by omega) (xd_L hb)) vc_X3 (f_oneDay l D cy ad (up2 (gbV V b) b 3 zd) J Rr (VR_up (gbV_VR hV) (by omega)) hJ b hb (NPl_up (NPl_gb hnp (by omega)) (by omega)) (NPe_up (NPe_gb hne (by omega)) (by omega)) (by rw [up2_s]; omega)) (l1 := []) (l2 := []) (List.append_nil _).symm (w2 := fun u : xS => XW cy ad u.1 u.2.1 u.2.2) (fun _ => List.append_nil _) rfl wm_yX3_oneDay wn_X3 wl_X3_76 wi_yX3_oneDay we_yX3_oneDay hd_yX3_oneDay rfl ⟨Nat.le_of_ble_eq_true rfl, Nat.le_of_ble_eq_true rfl⟩ (Nat.le_of_ble_eq_true rfl) ⟨Nat.le_of_ble_eq_true rfl, Nat.le_of_ble_eq_true rfl⟩ dX3_goBy_34 (fun u4 h4 => ?_)
      obtain rfl := h4
      try dsimp only
      refine x_iinc C.1 (v := (zi : Int) + 1) (lv' := [(3, vI ((zi : Int) + 1)), (0, .ref (ad b)), (1, .ref (ad 60)), (2, vI x1)]) rfl dX3_goBy_37 0 rfl (by decide) rfl ?_
      refine x_goto C.1 (tgt := 17) dX3_goBy_40 (by decide) ?_
      rw [up2_s, up2_two, ← Int.natCast_add_one]
      exact ih1 (zi + 1, zd + 1) ⟨by omega, by omega, by omega⟩ (by (try dsimp only); omega)
theorem hd_yX3_goBy : yX3_goBy.cls ≠ "java/lang/invoke/MethodHandle" ∧ yX3_goBy.cls ≠ "java/lang/invoke/VarHandle" ∧ (parseMethodDescriptor yX3_goBy.desc).map (fun d => d.parameters.length) = some 2 := by decide +kernel
theorem dX11_days_0 : decode cX11_days 0 = .ok (.iload_n 1, 1) := by decide +kernel
theorem dX11_days_1 : decode cX11_days 1 = .ok (.iconst 1, 1) := by decide +kernel
theorem dX11_days_2 : decode cX11_days 2 = .ok (.bipush 60, 2) := by decide +kernel
theorem dX11_days_4 : decode cX11_days 4 = .ok (.invokestatic 74, 3) := by decide +kernel
theorem dX11_days_7 : decode cX11_days 7 = .ok (.ifCond .ne 5, 3) := by decide +kernel
theorem dX11_days_10 : decode cX11_days 10 = .ok (.iconst (-1), 1) := by decide +kernel
theorem dX11_days_11 : decode cX11_days 11 = .ok (.ireturn, 1) := by decide +kernel
theorem dX11_days_12 : decode cX11_days 12 = .ok (.aload_n 0, 1) := by decide +kernel
theorem dX11_days_13 : decode cX11_days 13 = .ok (.getfield 10, 3) := by decide +kernel
theorem dX11_days_16 : decode cX11_days 16 = .ok (.aload_n 0, 1) := by decide +kernel
theorem dX11_days_17 : decode cX11_days 17 = .ok (.getfield 34, 3) := by decide +kernel
theorem dX11_days_20 : decode cX11_days 20 = .ok (.iload_n 1, 1) := by decide +kernel
theorem dX11_days_21 : decode cX11_days 21 = .ok (.invokevirtual 132, 3) := by decide +kernel
theorem dX11_days_24 : decode cX11_days 24 = .ok (.aload_n 0, 1) := by decide +kernel
theorem dX11_days_25 : decode cX11_days 25 = .ok (.getfield 10, 3) := by decide +kernel
theorem dX11_days_28 : decode cX11_days 28 = .ok (.getfield 136, 3) := by decide +kernel
theorem dX11_days_31 : decode cX11_days 31 = .ok (.ireturn, 1) := by decide +kernel
set_option maxHeartbeats 4000000 in
set_option maxRecDepth 100000 in
theorem f_days (l : Launch) (D : va_G) (cy : Nat → ClassId) (ad : Nat → Nat) (V J : Nat → Nat → Int) (Rr : Nat → Nat → Nat) (hV : VR V) (hJ : VJ J) (x1 : Int) (hx1 : R32 x1) (hnp : NPl V 1) (hne : NPe V 1) (htl : V 58 1 = 0) (hdy : V 1 3 = 0) : xMi l D (xTY cy) yX11_days cX11_days 2 (some .int) 5 109 0 0 [.ref (ad 0), vI x1] (XW cy ad V J Rr) (fun u : xS => XW cy ad u.1 u.2.1 u.2.2) (fun r _ => (1 ≤ x1 ∧ x1 ≤ 60 ∧ r = 0) ∨ (¬ (1 ≤ x1 ∧ x1 ≤ 60) ∧ r = -1)) := by
  refine xMi.mk (lv0 := [(0, .ref (ad 0)), (1, vI x1)]) (by decide) rfl (Nat.le_of_ble_eq_true rfl) (fun p e s m below meth c A C hr hnm hAe => ?_)
  have C : xC2 p s m _ meth c D A s.heap 2 cX11_days RX11 (xTY cy) := C
  refine x_iload_n C.1 dX11_days_0 1 rfl ?_
  refine x_iconst C.1 (n := 1) dX11_days_1 ?_
  refine x_bipush C.1 (n := 60) dX11_days_2 ?_
  refine x_callSi C (As := [vI x1, vI 1, vI 60]) (rest := []) (c_isWithin l D cy x1 1 60 hx1 (by decide) (by decide)) (l1 := []) (l2 := _) rfl (w2 := fun _ => _) (fun _ => rfl) rfl wm_yX11_isWithin wn_X11 wl_X11_74 wi_yX11_isWithin hd_yX11_isWithin rfl ⟨Nat.le_of_ble_eq_true rfl, Nat.le_of_ble_eq_true rfl⟩ (Nat.le_of_ble_eq_true rfl) ⟨Nat.le_of_ble_eq_true rfl, Nat.le_of_ble_eq_true rfl⟩ dX11_days_4 (fun r1 u1 hr1 h1 => ?_)
  rcases h1 with ⟨rfl, t1, t1b⟩ | ⟨rfl, t1⟩
  · refine x_if_ne_t C.1 (tgt := 12) dX11_days_7 (by decide) (by decide) (by decide) ?_
    refine x_aload_n C.1 dX11_days_12 0 rfl ?_
    refine x_getA C (N := 129) (i := 0) (by decide) rfl vc_X11 wx_X11 0 (by decide) wf_X11_10 (a := 1) rfl dX11_days_13 ?_
    refine x_aload_n C.1 dX11_days_16 0 rfl ?_
    refine x_getA C (N := 129) (i := 0) (by decide) rfl vc_X11 wx_X11 5 (by decide) wf_X11_34 (a := 60) rfl dX11_days_17 ?_
    refine x_iload_n C.1 dX11_days_20 1 rfl ?_
    refine x_callVv C (As := [.ref (ad 60), vI x1]) (rest := []) 1 (xw_at (N := 129) (i := 1) (by omega) (xd_L (Or.inl rfl))) vc_X3 (f_goBy l D cy ad V J Rr hV hJ 1 (Or.inl rfl) x1 hx1 hnp hne (by omega)) (l1 := []) (l2 := []) (List.append_nil _).symm (w2 := fun u : xS => XW cy ad u.1 u.2.1 u.2.2) (fun _ => List.append_nil _) rfl wm_yX3_goBy wn_X3 wl_X11_132 wi_yX3_goBy we_yX3_goBy hd_yX3_goBy rfl ⟨Nat.le_of_ble_eq_true rfl, Nat.le_of_ble_eq_true rfl⟩ (Nat.le_of_ble_eq_true rfl) ⟨Nat.le_of_ble_eq_true rfl, Nat.le_of_ble_eq_true rfl⟩ dX11_days_21 (fun u2 h2 => ?_)
    obtain ⟨zd, hzd1, hzd2, rfl⟩ := h2
    try dsimp only
    refine x_aload_n C.1 dX11_days_24 0 rfl ?_
    refine x_getA C (N := 129) (i := 0) (by decide) rfl vc_X11 wx_X11 0 (by decide) wf_X11_10 (a := 1) rfl dX11_days_25 ?_
    refine x_getI C (N := 129) (i := 1) (by omega) (xd_L (Or.inl rfl)) vc_X3 wx_X3 5 (by decide) wf_X11_136 rfl dX11_days_28 (a := 0) rfl ?_
    exact x_iret (S := xS) (post := fun r _ => (1 ≤ x1 ∧ x1 ≤ 60 ∧ r = 0) ∨ (¬ (1 ≤ x1 ∧ x1 ≤ 60) ∧ r = -1)) (w1 := fun u : xS => XW cy ad u.1 u.2.1 u.2.2) (a := 0) C hr rfl dX11_days_31 (by decide) ((up2 (gbV V 1) 1 3 zd), J, Rr) rfl (by omega)
  · refine x_if_ne_f C.1 (tgt := 12) dX11_days_7 (by decide) (by decide) (by decide) ?_
    refine x_iconst C.1 (n := -1) dX11_days_10 ?_
    exact x_iret (S := xS) (post := fun r _ => (1 ≤ x1 ∧ x1 ≤ 60 ∧ r = 0) ∨ (¬ (1 ≤ x1 ∧ x1 ≤ 60) ∧ r = -1)) (w1 := fun u : xS => XW cy ad u.1 u.2.1 u.2.2) (a := (-1)) C hr rfl dX11_days_11 (by decide) (V, J, Rr) rfl (by omega)
theorem dX11_canTry_0 : decode cX11_canTry 0 = .ok (.iload_n 1, 1) := by decide +kernel
theorem dX11_canTry_1 : decode cX11_canTry 1 = .ok (.iconst 0, 1) := by decide +kernel
theorem dX11_canTry_2 : decode cX11_canTry 2 = .ok (.iconst 3, 1) := by decide +kernel
theorem dX11_canTry_3 : decode cX11_canTry 3 = .ok (.invokestatic 74, 3) := by decide +kernel
theorem dX11_canTry_6 : decode cX11_canTry 6 = .ok (.ifCond .ne 31, 3) := by decide +kernel
theorem dX11_canTry_9 : decode cX11_canTry 9 = .ok (.aload_n 0, 1) := by decide +kernel
theorem dX11_canTry_10 : decode cX11_canTry 10 = .ok (.getfield 10, 3) := by decide +kernel
theorem dX11_canTry_13 : decode cX11_canTry 13 = .ok (.iload_n 1, 1) := by decide +kernel
theorem dX11_canTry_14 : decode cX11_canTry 14 = .ok (.bipush 10, 2) := by decide +kernel
theorem dX11_canTry_16 : decode cX11_canTry 16 = .ok (.isub, 1) := by decide +kernel
theorem dX11_canTry_17 : decode cX11_canTry 17 = .ok (.invokevirtual 91, 3) := by decide +kernel
theorem dX11_canTry_20 : decode cX11_canTry 20 = .ok (.ifCond .ne 17, 3) := by decide +kernel
theorem dX11_canTry_23 : decode cX11_canTry 23 = .ok (.aload_n 0, 1) := by decide +kernel
theorem dX11_canTry_24 : decode cX11_canTry 24 = .ok (.getfield 10, 3) := by decide +kernel
theorem dX11_canTry_27 : decode cX11_canTry 27 = .ok (.iload_n 1, 1) := by decide +kernel
theorem dX11_canTry_28 : decode cX11_canTry 28 = .ok (.bipush 20, 2) := by decide +kernel
theorem dX11_canTry_30 : decode cX11_canTry 30 = .ok (.isub, 1) := by decide +kernel
theorem dX11_canTry_31 : decode cX11_canTry 31 = .ok (.invokevirtual 168, 3) := by decide +kernel
theorem dX11_canTry_34 : decode cX11_canTry 34 = .ok (.ifCond .eq 7, 3) := by decide +kernel
theorem dX11_canTry_37 : decode cX11_canTry 37 = .ok (.iconst 1, 1) := by decide +kernel
theorem dX11_canTry_38 : decode cX11_canTry 38 = .ok (.goto 4, 3) := by decide +kernel
theorem dX11_canTry_41 : decode cX11_canTry 41 = .ok (.iconst 0, 1) := by decide +kernel
theorem dX11_canTry_42 : decode cX11_canTry 42 = .ok (.ireturn, 1) := by decide +kernel
set_option maxHeartbeats 4000000 in
set_option maxRecDepth 100000 in
theorem f_canTry (l : Launch) (D : va_G) (cy : Nat → ClassId) (ad : Nat → Nat) (V J : Nat → Nat → Int) (Rr : Nat → Nat → Nat) (hV : VR V) (hJ : VJ J) (x1 : Int) (hx1 : R32 x1) (hnp : NPl V 1) (hne : NPe V 1) (htl : V 58 1 = 0) : xMi l D (xTY cy) yX11_canTry cX11_canTry 2 (some .boolean) 2 42 0 0 [.ref (ad 0), vI x1] (XW cy ad V J Rr) (fun _ : Unit => XW cy ad V J Rr) (fun r _ => (r = 1 ∧ 0 ≤ x1 ∧ x1 ≤ 3) ∨ (r = 0 ∧ ¬ (0 ≤ x1 ∧ x1 ≤ 3))) := by
  refine xMi.mk (lv0 := [(0, .ref (ad 0)), (1, vI x1)]) (by decide) rfl (Nat.le_of_ble_eq_true rfl) (fun p e s m below meth c A C hr hnm hAe => ?_)
  have C : xC2 p s m _ meth c D A s.heap 2 cX11_canTry RX11 (xTY cy) := C
  refine x_iload_n C.1 dX11_canTry_0 1 rfl ?_
  refine x_iconst C.1 (n := 0) dX11_canTry_1 ?_
  refine x_iconst C.1 (n := 3) dX11_canTry_2 ?_
  refine x_callSi C (As := [vI x1, vI 0, vI 3]) (rest := []) (c_isWithin l D cy x1 0 3 hx1 (by decide) (by decide)) (l1 := []) (l2 := _) rfl (w2 := fun _ => _) (fun _ => rfl) rfl wm_yX11_isWithin wn_X11 wl_X11_74 wi_yX11_isWithin hd_yX11_isWithin rfl ⟨Nat.le_of_ble_eq_true rfl, Nat.le_of_ble_eq_true rfl⟩ (Nat.le_of_ble_eq_true rfl) ⟨Nat.le_of_ble_eq_true rfl, Nat.le_of_ble_eq_true rfl⟩ dX11_canTry_3 (fun r1 u1 hr1 h1 => ?_)
  rcases h1 with ⟨rfl, t1, t1b⟩ | ⟨rfl, t1⟩
  · refine x_if_ne_t C.1 (tgt := 37) dX11_canTry_6 (by decide) (by decide) (by decide) ?_
    refine x_iconst C.1 (n := 1) dX11_canTry_37 ?_
    refine x_goto C.1 (tgt := 42) dX11_canTry_38 (by decide) ?_
    exact x_zret (S := Unit) (post := fun r _ => (r = 1 ∧ 0 ≤ x1 ∧ x1 ≤ 3) ∨ (r = 0 ∧ ¬ (0 ≤ x1 ∧ x1 ≤ 3))) (w1 := fun _ : Unit => XW cy ad V J Rr) (a := 1) C hr rfl dX11_canTry_42 (by decide) () rfl (by omega)
  · refine x_if_ne_f C.1 (tgt := 37) dX11_canTry_6 (by decide) (by decide) (by decide) ?_
    refine x_aload_n C.1 dX11_canTry_9 0 rfl ?_
    refine x_getA C (N := 129) (i := 0) (by decide) rfl vc_X11 wx_X11 0 (by decide) wf_X11_10 (a := 1) rfl dX11_canTry_10 ?_
    refine x_iload_n C.1 dX11_canTry_13 1 rfl ?_
    refine x_bipush C.1 (n := 10) dX11_canTry_14 ?_
    refine x_isub C.1 (v := x1 - 10) rfl dX11_canTry_16 ?_
    refine x_wrap ?_
    have hw2 := wr_cases (z := x1 - 10) (by omega)
    refine x_callVi C (As := [vI (wr (x1 - 10))]) (rest := []) 1 (xw_at (N := 129) (i := 1) (by omega) (xd_L (Or.inl rfl))) vc_X3 (c_isPlant l D cy ad V J Rr hV hJ 1 (Or.inl rfl) (wr (x1 - 10)) (wr_r _)) (l1 := []) (l2 := []) (List.append_nil _).symm (w2 := fun _ => XW cy ad V J Rr) (fun _ => List.append_nil _) rfl wm_yX3_isPlant wn_X3 wl_X11_91 wi_yX3_isPlant we_yX3_isPlant hd_yX3_isPlant rfl ⟨Nat.le_of_ble_eq_true rfl, Nat.le_of_ble_eq_true rfl⟩ (Nat.le_of_ble_eq_true rfl) ⟨Nat.le_of_ble_eq_true rfl, Nat.le_of_ble_eq_true rfl⟩ dX11_canTry_17 (fun r3 u3 hr3 h3 => ?_)
    rcases h3 with ⟨rfl, t3, t3b, t3c⟩ | ⟨rfl, t3⟩
    · exact absurd (hnp _ (by omega)) t3c
    · refine x_if_ne_f C.1 (tgt := 37) dX11_canTry_20 (by decide) (by decide) (by decide) ?_
      refine x_aload_n C.1 dX11_canTry_23 0 rfl ?_
      refine x_getA C (N := 129) (i := 0) (by decide) rfl vc_X11 wx_X11 0 (by decide) wf_X11_10 (a := 1) rfl dX11_canTry_24 ?_
      refine x_iload_n C.1 dX11_canTry_27 1 rfl ?_
      refine x_bipush C.1 (n := 20) dX11_canTry_28 ?_
      refine x_isub C.1 (v := x1 - 20) rfl dX11_canTry_30 ?_
      refine x_wrap ?_
      have hw4 := wr_cases (z := x1 - 20) (by omega)
      refine x_callVi C (As := [vI (wr (x1 - 20))]) (rest := []) 1 (xw_at (N := 129) (i := 1) (by omega) (xd_L (Or.inl rfl))) vc_X3 (c_isPerson l D cy ad V J Rr hV hJ 1 (Or.inl rfl) (wr (x1 - 20)) (wr_r _)) (l1 := []) (l2 := []) (List.append_nil _).symm (w2 := fun _ => XW cy ad V J Rr) (fun _ => List.append_nil _) rfl wm_yX3_isPerson wn_X3 wl_X11_168 wi_yX3_isPerson we_yX3_isPerson hd_yX3_isPerson rfl ⟨Nat.le_of_ble_eq_true rfl, Nat.le_of_ble_eq_true rfl⟩ (Nat.le_of_ble_eq_true rfl) ⟨Nat.le_of_ble_eq_true rfl, Nat.le_of_ble_eq_true rfl⟩ dX11_canTry_31 (fun r5 u5 hr5 h5 => ?_)
      rcases h5 with ⟨rfl, t5, t5b, t5c⟩ | ⟨rfl, t5⟩
      · exact absurd (hne _ (by omega)) t5c
      · refine x_if_eq_t C.1 (tgt := 41) dX11_canTry_34 (by decide) (by decide) (by decide) ?_
        refine x_iconst C.1 (n := 0) dX11_canTry_41 ?_
        exact x_zret (S := Unit) (post := fun r _ => (r = 1 ∧ 0 ≤ x1 ∧ x1 ≤ 3) ∨ (r = 0 ∧ ¬ (0 ≤ x1 ∧ x1 ≤ 3))) (w1 := fun _ : Unit => XW cy ad V J Rr) (a := 0) C hr rfl dX11_canTry_42 (by decide) () rfl (by omega)
theorem hd_yX11_canTry : yX11_canTry.cls ≠ "java/lang/invoke/MethodHandle" ∧ yX11_canTry.cls ≠ "java/lang/invoke/VarHandle" ∧ (parseMethodDescriptor yX11_canTry.desc).map (fun d => d.parameters.length) = some 1 := by decide +kernel
theorem hd_yX3_copy : yX3_copy.cls ≠ "java/lang/invoke/MethodHandle" ∧ yX3_copy.cls ≠ "java/lang/invoke/VarHandle" ∧ (parseMethodDescriptor yX3_copy.desc).map (fun d => d.parameters.length) = some 1 := by decide +kernel
theorem dX11_tried_0 : decode cX11_tried 0 = .ok (.iload_n 1, 1) := by decide +kernel
theorem dX11_tried_1 : decode cX11_tried 1 = .ok (.iconst 1, 1) := by decide +kernel
theorem dX11_tried_2 : decode cX11_tried 2 = .ok (.bipush 60, 2) := by decide +kernel
theorem dX11_tried_4 : decode cX11_tried 4 = .ok (.invokestatic 74, 3) := by decide +kernel
theorem dX11_tried_7 : decode cX11_tried 7 = .ok (.ifCond .eq 11, 3) := by decide +kernel
theorem dX11_tried_10 : decode cX11_tried 10 = .ok (.aload_n 0, 1) := by decide +kernel
theorem dX11_tried_11 : decode cX11_tried 11 = .ok (.iload_n 2, 1) := by decide +kernel
theorem dX11_tried_12 : decode cX11_tried 12 = .ok (.invokevirtual 139, 3) := by decide +kernel
theorem dX11_tried_15 : decode cX11_tried 15 = .ok (.ifCond .ne 5, 3) := by decide +kernel
theorem dX11_tried_18 : decode cX11_tried 18 = .ok (.iconst (-1), 1) := by decide +kernel
theorem dX11_tried_19 : decode cX11_tried 19 = .ok (.ireturn, 1) := by decide +kernel
theorem dX11_tried_20 : decode cX11_tried 20 = .ok (.aload_n 0, 1) := by decide +kernel
theorem dX11_tried_21 : decode cX11_tried 21 = .ok (.getfield 19, 3) := by decide +kernel
theorem dX11_tried_24 : decode cX11_tried 24 = .ok (.aload_n 0, 1) := by decide +kernel
theorem dX11_tried_25 : decode cX11_tried 25 = .ok (.getfield 10, 3) := by decide +kernel
theorem dX11_tried_28 : decode cX11_tried 28 = .ok (.invokevirtual 142, 3) := by decide +kernel
theorem dX11_tried_31 : decode cX11_tried 31 = .ok (.aload_n 0, 1) := by decide +kernel
theorem dX11_tried_32 : decode cX11_tried 32 = .ok (.getfield 19, 3) := by decide +kernel
theorem dX11_tried_35 : decode cX11_tried 35 = .ok (.aload_n 0, 1) := by decide +kernel
theorem dX11_tried_36 : decode cX11_tried 36 = .ok (.getfield 34, 3) := by decide +kernel
theorem dX11_tried_39 : decode cX11_tried 39 = .ok (.iload_n 1, 1) := by decide +kernel
theorem dX11_tried_40 : decode cX11_tried 40 = .ok (.invokevirtual 132, 3) := by decide +kernel
theorem dX11_tried_43 : decode cX11_tried 43 = .ok (.iload_n 2, 1) := by decide +kernel
theorem dX11_tried_44 : decode cX11_tried 44 = .ok (.bipush 20, 2) := by decide +kernel
theorem dX11_tried_46 : decode cX11_tried 46 = .ok (.if_icmp .lt 35, 3) := by decide +kernel
theorem dX11_tried_81 : decode cX11_tried 81 = .ok (.iload_n 2, 1) := by decide +kernel
theorem dX11_tried_82 : decode cX11_tried 82 = .ok (.bipush 10, 2) := by decide +kernel
theorem dX11_tried_84 : decode cX11_tried 84 = .ok (.if_icmp .lt 19, 3) := by decide +kernel
theorem dX11_tried_103 : decode cX11_tried 103 = .ok (.iload_n 2, 1) := by decide +kernel
theorem dX11_tried_104 : decode cX11_tried 104 = .ok (.ifCond .ne 11, 3) := by decide +kernel
theorem dX11_tried_107 : decode cX11_tried 107 = .ok (.aload_n 0, 1) := by decide +kernel
theorem dX11_tried_108 : decode cX11_tried 108 = .ok (.getfield 19, 3) := by decide +kernel
theorem dX11_tried_111 : decode cX11_tried 111 = .ok (.getfield 136, 3) := by decide +kernel
theorem dX11_tried_114 : decode cX11_tried 114 = .ok (.ireturn, 1) := by decide +kernel
theorem dX11_tried_115 : decode cX11_tried 115 = .ok (.iload_n 2, 1) := by decide +kernel
theorem dX11_tried_116 : decode cX11_tried 116 = .ok (.iconst 1, 1) := by decide +kernel
theorem dX11_tried_117 : decode cX11_tried 117 = .ok (.if_icmp .ne 11, 3) := by decide +kernel
theorem dX11_tried_120 : decode cX11_tried 120 = .ok (.aload_n 0, 1) := by decide +kernel
theorem dX11_tried_121 : decode cX11_tried 121 = .ok (.getfield 19, 3) := by decide +kernel
theorem dX11_tried_124 : decode cX11_tried 124 = .ok (.getfield 153, 3) := by decide +kernel
theorem dX11_tried_127 : decode cX11_tried 127 = .ok (.ireturn, 1) := by decide +kernel
theorem dX11_tried_128 : decode cX11_tried 128 = .ok (.iload_n 2, 1) := by decide +kernel
theorem dX11_tried_129 : decode cX11_tried 129 = .ok (.iconst 2, 1) := by decide +kernel
theorem dX11_tried_130 : decode cX11_tried 130 = .ok (.if_icmp .ne 16, 3) := by decide +kernel
theorem dX11_tried_133 : decode cX11_tried 133 = .ok (.aload_n 0, 1) := by decide +kernel
theorem dX11_tried_134 : decode cX11_tried 134 = .ok (.getfield 19, 3) := by decide +kernel
theorem dX11_tried_137 : decode cX11_tried 137 = .ok (.invokevirtual 156, 3) := by decide +kernel
theorem dX11_tried_140 : decode cX11_tried 140 = .ok (.invokestatic 160, 3) := by decide +kernel
theorem dX11_tried_143 : decode cX11_tried 143 = .ok (.goto 10, 3) := by decide +kernel
theorem dX11_tried_146 : decode cX11_tried 146 = .ok (.aload_n 0, 1) := by decide +kernel
theorem dX11_tried_147 : decode cX11_tried 147 = .ok (.getfield 19, 3) := by decide +kernel
theorem dX11_tried_150 : decode cX11_tried 150 = .ok (.getfield 165, 3) := by decide +kernel
theorem dX11_tried_153 : decode cX11_tried 153 = .ok (.ireturn, 1) := by decide +kernel
set_option maxHeartbeats 4000000 in
set_option maxRecDepth 100000 in
theorem f_tried (l : Launch) (D : va_G) (cy : Nat → ClassId) (ad : Nat → Nat) (V J : Nat → Nat → Int) (Rr : Nat → Nat → Nat) (hV : VR V) (hJ : VJ J) (x1 x2 : Int) (hx1 : R32 x1) (hx2 : R32 x2) (hnp : NPl V 1) (hne : NPe V 1) (htl : V 58 1 = 0) (hdy : V 1 3 = 0) (hbp : BPl V 1) (hbe : BPe V 1) : xMi l D (xTY cy) yX11_tried cX11_tried 3 (some .int) 5 109 0 0 [.ref (ad 0), vI x1, vI x2] (XW cy ad V J Rr) (fun u : xS => XW cy ad u.1 u.2.1 u.2.2) (fun r _ => (1 ≤ x1 ∧ x1 ≤ 60 ∧ 0 ≤ x2 ∧ x2 ≤ 3 ∧ r = 0) ∨ (¬ (1 ≤ x1 ∧ x1 ≤ 60 ∧ 0 ≤ x2 ∧ x2 ≤ 3) ∧ r = -1)) := by
  refine xMi.mk (lv0 := [(0, .ref (ad 0)), (1, vI x1), (2, vI x2)]) (by decide) rfl (Nat.le_of_ble_eq_true rfl) (fun p e s m below meth c A C hr hnm hAe => ?_)
  have C : xC2 p s m _ meth c D A s.heap 3 cX11_tried RX11 (xTY cy) := C
  refine x_iload_n C.1 dX11_tried_0 1 rfl ?_
  refine x_iconst C.1 (n := 1) dX11_tried_1 ?_
  refine x_bipush C.1 (n := 60) dX11_tried_2 ?_
  refine x_callSi C (As := [vI x1, vI 1, vI 60]) (rest := []) (c_isWithin l D cy x1 1 60 hx1 (by decide) (by decide)) (l1 := []) (l2 := _) rfl (w2 := fun _ => _) (fun _ => rfl) rfl wm_yX11_isWithin wn_X11 wl_X11_74 wi_yX11_isWithin hd_yX11_isWithin rfl ⟨Nat.le_of_ble_eq_true rfl, Nat.le_of_ble_eq_true rfl⟩ (Nat.le_of_ble_eq_true rfl) ⟨Nat.le_of_ble_eq_true rfl, Nat.le_of_ble_eq_true rfl⟩ dX11_tried_4 (fun r1 u1 hr1 h1 => ?_)
  rcases h1 with ⟨rfl, t1, t1b⟩ | ⟨rfl, t1⟩
  · refine x_if_eq_f C.1 (tgt := 18) dX11_tried_7 (by decide) (by decide) (by decide) ?_
    refine x_aload_n C.1 dX11_tried_10 0 rfl ?_
    refine x_iload_n C.1 dX11_tried_11 2 rfl ?_
    refine x_callVi C (As := [vI x2]) (rest := []) 0 (xw_at (N := 129) (i := 0) (by decide) rfl) vc_X11 (f_canTry l D cy ad V J Rr hV hJ x2 hx2 hnp hne htl) (l1 := []) (l2 := []) (List.append_nil _).symm (w2 := fun _ => XW cy ad V J Rr) (fun _ => List.append_nil _) rfl wm_yX11_canTry wn_X11 wl_X11_139 wi_yX11_canTry we_yX11_canTry hd_yX11_canTry rfl ⟨Nat.le_of_ble_eq_true rfl, Nat.le_of_ble_eq_true rfl⟩ (Nat.le_of_ble_eq_true rfl) ⟨Nat.le_of_ble_eq_true rfl, Nat.le_of_ble_eq_true rfl⟩ dX11_tried_12 (fun r2 u2 hr2 h2 => ?_)
    rcases h2 with ⟨rfl, t2, t2b⟩ | ⟨rfl, t2⟩
    · refine x_if_ne_t C.1 (tgt := 20) dX11_tried_15 (by decide) (by decide) (by decide) ?_
      refine x_aload_n C.1 dX11_tried_20 0 rfl ?_
      refine x_getA C (N := 129) (i := 0) (by decide) rfl vc_X11 wx_X11 2 (by decide) wf_X11_19 (a := 39) rfl dX11_tried_21 ?_
      refine x_aload_n C.1 dX11_tried_24 0 rfl ?_
      refine x_getA C (N := 129) (i := 0) (by decide) rfl vc_X11 wx_X11 0 (by decide) wf_X11_10 (a := 1) rfl dX11_tried_25 ?_
      refine x_callVv C (As := [.ref (ad 1)]) (rest := []) 39 (xw_at (N := 129) (i := 39) (by omega) (xd_L (Or.inr (Or.inr rfl)))) vc_X3 (c_laCopy l D cy ad V J Rr hV hJ 39 1 (Or.inr (Or.inr rfl)) (Or.inl rfl) (by decide) hbp hbe) (l1 := []) (l2 := []) (List.append_nil _).symm (w2 := fun u : xS => XW cy ad u.1 u.2.1 u.2.2) (fun _ => List.append_nil _) rfl wm_yX3_copy wn_X3 wl_X11_142 wi_yX3_copy we_yX3_copy hd_yX3_copy rfl ⟨Nat.le_of_ble_eq_true rfl, Nat.le_of_ble_eq_true rfl⟩ (Nat.le_of_ble_eq_true rfl) ⟨Nat.le_of_ble_eq_true rfl, Nat.le_of_ble_eq_true rfl⟩ dX11_tried_28 (fun u3 h3 => ?_)
      obtain rfl := h3
      try dsimp only
      refine x_aload_n C.1 dX11_tried_31 0 rfl ?_
      refine x_getA C (N := 129) (i := 0) (by decide) rfl vc_X11 wx_X11 2 (by decide) wf_X11_19 (a := 39) rfl dX11_tried_32 ?_
      refine x_aload_n C.1 dX11_tried_35 0 rfl ?_
      refine x_getA C (N := 129) (i := 0) (by decide) rfl vc_X11 wx_X11 5 (by decide) wf_X11_34 (a := 60) rfl dX11_tried_36 ?_
      refine x_iload_n C.1 dX11_tried_39 1 rfl ?_
      refine x_callVv C (As := [.ref (ad 60), vI x1]) (rest := []) 39 (xw_at (N := 129) (i := 39) (by omega) (xd_L (Or.inr (Or.inr rfl)))) vc_X3 (f_goBy l D cy ad (laCp V 1 39) J Rr (laCp_VR hV) hJ 39 (Or.inr (Or.inr rfl)) x1 hx1 (NPl_cp hnp) (NPe_cp hne) (by rw [laCp_3]; omega)) (l1 := []) (l2 := []) (List.append_nil _).symm (w2 := fun u : xS => XW cy ad u.1 u.2.1 u.2.2) (fun _ => List.append_nil _) rfl wm_yX3_goBy wn_X3 wl_X11_132 wi_yX3_goBy we_yX3_goBy hd_yX3_goBy rfl ⟨Nat.le_of_ble_eq_true rfl, Nat.le_of_ble_eq_true rfl⟩ (Nat.le_of_ble_eq_true rfl) ⟨Nat.le_of_ble_eq_true rfl, Nat.le_of_ble_eq_true rfl⟩ dX11_tried_40 (fun u4 h4 => ?_)
      obtain ⟨zd, hzd1, hzd2, rfl⟩ := h4
      try dsimp only
      refine x_iload_n C.1 dX11_tried_43 2 rfl ?_
      refine x_bipush C.1 (n := 20) dX11_tried_44 ?_
      refine x_icmp_lt_t C.1 (tgt := 81) dX11_tried_46 (by decide) hx2 (by decide) (by omega) ?_
      refine x_iload_n C.1 dX11_tried_81 2 rfl ?_
      refine x_bipush C.1 (n := 10) dX11_tried_82 ?_
      refine x_icmp_lt_t C.1 (tgt := 103) dX11_tried_84 (by decide) hx2 (by decide) (by omega) ?_
      refine x_iload_n C.1 dX11_tried_103 2 rfl ?_
      refine x_if_ne C.1 (tgt := 115) dX11_tried_104 (by decide) hx2 (fun c104_5 => ?_) (fun c104_5 => ?_)
      · refine x_iload_n C.1 dX11_tried_115 2 rfl ?_
        refine x_iconst C.1 (n := 1) dX11_tried_116 ?_
        refine x_icmp_ne C.1 (tgt := 128) dX11_tried_117 (by decide) hx2 (by decide) (fun c117_6 => ?_) (fun c117_6 => ?_)
        · refine x_iload_n C.1 dX11_tried_128 2 rfl ?_
          refine x_iconst C.1 (n := 2) dX11_tried_129 ?_
          refine x_icmp_ne C.1 (tgt := 146) dX11_tried_130 (by decide) hx2 (by decide) (fun c130_7 => ?_) (fun c130_7 => ?_)
          · refine x_aload_n C.1 dX11_tried_146 0 rfl ?_
            refine x_getA C (N := 129) (i := 0) (by decide) rfl vc_X11 wx_X11 2 (by decide) wf_X11_19 (a := 39) rfl dX11_tried_147 ?_
            refine x_getI C (N := 129) (i := 39) (by omega) (xd_L (Or.inr (Or.inr rfl))) vc_X3 wx_X3 7 (by decide) wf_X11_165 rfl dX11_tried_150 (a := 0) rfl ?_
            exact x_iret (S := xS) (post := fun r _ => (1 ≤ x1 ∧ x1 ≤ 60 ∧ 0 ≤ x2 ∧ x2 ≤ 3 ∧ r = 0) ∨ (¬ (1 ≤ x1 ∧ x1 ≤ 60 ∧ 0 ≤ x2 ∧ x2 ≤ 3) ∧ r = -1)) (w1 := fun u : xS => XW cy ad u.1 u.2.1 u.2.2) (a := 0) C hr rfl dX11_tried_153 (by decide) ((up2 (gbV (laCp V 1 39) 39) 39 3 zd), J, Rr) rfl (by omega)
          · refine x_aload_n C.1 dX11_tried_133 0 rfl ?_
            refine x_getA C (N := 129) (i := 0) (by decide) rfl vc_X11 wx_X11 2 (by decide) wf_X11_19 (a := 39) rfl dX11_tried_134 ?_
            refine x_callVi C (As := []) (rest := []) 39 (xw_at (N := 129) (i := 39) (by omega) (xd_L (Or.inr (Or.inr rfl)))) vc_X3 (f_deadBits l D cy ad (up2 (gbV (laCp V 1 39) 39) 39 3 zd) J Rr (VR_up (gbV_VR (laCp_VR hV)) (by omega)) hJ 39 (Or.inr (Or.inr rfl)) (NPl_up (NPl_gb (NPl_cp hnp) (by omega)) (by omega))) (l1 := []) (l2 := []) (List.append_nil _).symm (w2 := fun _ => XW cy ad (up2 (gbV (laCp V 1 39) 39) 39 3 zd) J Rr) (fun _ => List.append_nil _) rfl wm_yX3_deadBits wn_X3 wl_X11_156 wi_yX3_deadBits we_yX3_deadBits hd_yX3_deadBits rfl ⟨Nat.le_of_ble_eq_true rfl, Nat.le_of_ble_eq_true rfl⟩ (Nat.le_of_ble_eq_true rfl) ⟨Nat.le_of_ble_eq_true rfl, Nat.le_of_ble_eq_true rfl⟩ dX11_tried_137 (fun r8 u8 hr8 h8 => ?_)
            obtain rfl := h8
            refine x_callSi C (As := [vI 0]) (rest := []) (c_bitCount l D cy 0 (by decide)) (l1 := []) (l2 := _) rfl (w2 := fun _ => _) (fun _ => rfl) rfl wm_yJ6_bitCount_0f7a4 wn_J6 wl_X11_160 wi_yJ6_bitCount_0f7a4 hd_yJ6_bitCount_0f7a4 rfl ⟨Nat.le_of_ble_eq_true rfl, Nat.le_of_ble_eq_true rfl⟩ (Nat.le_of_ble_eq_true rfl) ⟨Nat.le_of_ble_eq_true rfl, Nat.le_of_ble_eq_true rfl⟩ dX11_tried_140 (fun r9 u9 hr9 h9 => ?_)
            have h9b := h9 rfl
            refine x_goto C.1 (tgt := 153) dX11_tried_143 (by decide) ?_
            exact x_iret (S := xS) (post := fun r _ => (1 ≤ x1 ∧ x1 ≤ 60 ∧ 0 ≤ x2 ∧ x2 ≤ 3 ∧ r = 0) ∨ (¬ (1 ≤ x1 ∧ x1 ≤ 60 ∧ 0 ≤ x2 ∧ x2 ≤ 3) ∧ r = -1)) (w1 := fun u : xS => XW cy ad u.1 u.2.1 u.2.2) (a := r9) C hr rfl dX11_tried_153 hr9 ((up2 (gbV (laCp V 1 39) 39) 39 3 zd), J, Rr) rfl (by omega)
        · refine x_aload_n C.1 dX11_tried_120 0 rfl ?_
          refine x_getA C (N := 129) (i := 0) (by decide) rfl vc_X11 wx_X11 2 (by decide) wf_X11_19 (a := 39) rfl dX11_tried_121 ?_
          refine x_getI C (N := 129) (i := 39) (by omega) (xd_L (Or.inr (Or.inr rfl))) vc_X3 wx_X3 6 (by decide) wf_X11_153 rfl dX11_tried_124 (a := 0) rfl ?_
          exact x_iret (S := xS) (post := fun r _ => (1 ≤ x1 ∧ x1 ≤ 60 ∧ 0 ≤ x2 ∧ x2 ≤ 3 ∧ r = 0) ∨ (¬ (1 ≤ x1 ∧ x1 ≤ 60 ∧ 0 ≤ x2 ∧ x2 ≤ 3) ∧ r = -1)) (w1 := fun u : xS => XW cy ad u.1 u.2.1 u.2.2) (a := 0) C hr rfl dX11_tried_127 (by decide) ((up2 (gbV (laCp V 1 39) 39) 39 3 zd), J, Rr) rfl (by omega)
      · refine x_aload_n C.1 dX11_tried_107 0 rfl ?_
        refine x_getA C (N := 129) (i := 0) (by decide) rfl vc_X11 wx_X11 2 (by decide) wf_X11_19 (a := 39) rfl dX11_tried_108 ?_
        refine x_getI C (N := 129) (i := 39) (by omega) (xd_L (Or.inr (Or.inr rfl))) vc_X3 wx_X3 5 (by decide) wf_X11_136 rfl dX11_tried_111 (a := 0) rfl ?_
        exact x_iret (S := xS) (post := fun r _ => (1 ≤ x1 ∧ x1 ≤ 60 ∧ 0 ≤ x2 ∧ x2 ≤ 3 ∧ r = 0) ∨ (¬ (1 ≤ x1 ∧ x1 ≤ 60 ∧ 0 ≤ x2 ∧ x2 ≤ 3) ∧ r = -1)) (w1 := fun u : xS => XW cy ad u.1 u.2.1 u.2.2) (a := 0) C hr rfl dX11_tried_114 (by decide) ((up2 (gbV (laCp V 1 39) 39) 39 3 zd), J, Rr) rfl (by omega)
    · refine x_if_ne_f C.1 (tgt := 20) dX11_tried_15 (by decide) (by decide) (by decide) ?_
      refine x_iconst C.1 (n := -1) dX11_tried_18 ?_
      exact x_iret (S := xS) (post := fun r _ => (1 ≤ x1 ∧ x1 ≤ 60 ∧ 0 ≤ x2 ∧ x2 ≤ 3 ∧ r = 0) ∨ (¬ (1 ≤ x1 ∧ x1 ≤ 60 ∧ 0 ≤ x2 ∧ x2 ≤ 3) ∧ r = -1)) (w1 := fun u : xS => XW cy ad u.1 u.2.1 u.2.2) (a := (-1)) C hr rfl dX11_tried_19 (by decide) (V, J, Rr) rfl (by omega)
  · refine x_if_eq_t C.1 (tgt := 18) dX11_tried_7 (by decide) (by decide) (by decide) ?_
    refine x_iconst C.1 (n := -1) dX11_tried_18 ?_
    exact x_iret (S := xS) (post := fun r _ => (1 ≤ x1 ∧ x1 ≤ 60 ∧ 0 ≤ x2 ∧ x2 ≤ 3 ∧ r = 0) ∨ (¬ (1 ≤ x1 ∧ x1 ≤ 60 ∧ 0 ≤ x2 ∧ x2 ≤ 3) ∧ r = -1)) (w1 := fun u : xS => XW cy ad u.1 u.2.1 u.2.2) (a := (-1)) C hr rfl dX11_tried_19 (by decide) (V, J, Rr) rfl (by omega)
theorem dX11_keep_0 : decode cX11_keep 0 = .ok (.aload_n 0, 1) := by decide +kernel
theorem dX11_keep_1 : decode cX11_keep 1 = .ok (.getfield 16, 3) := by decide +kernel
theorem dX11_keep_4 : decode cX11_keep 4 = .ok (.aload_n 0, 1) := by decide +kernel
theorem dX11_keep_5 : decode cX11_keep 5 = .ok (.getfield 10, 3) := by decide +kernel
theorem dX11_keep_8 : decode cX11_keep 8 = .ok (.invokevirtual 142, 3) := by decide +kernel
theorem dX11_keep_11 : decode cX11_keep 11 = .ok (.aload_n 0, 1) := by decide +kernel
theorem dX11_keep_12 : decode cX11_keep 12 = .ok (.iconst 1, 1) := by decide +kernel
theorem dX11_keep_13 : decode cX11_keep 13 = .ok (.putfield 330, 3) := by decide +kernel
theorem dX11_keep_16 : decode cX11_keep 16 = .ok (.iconst 0, 1) := by decide +kernel
theorem dX11_keep_17 : decode cX11_keep 17 = .ok (.istore_n 1, 1) := by decide +kernel
theorem dX11_keep_18 : decode cX11_keep 18 = .ok (.iconst 0, 1) := by decide +kernel
theorem dX11_keep_19 : decode cX11_keep 19 = .ok (.istore_n 2, 1) := by decide +kernel
theorem dX11_keep_20 : decode cX11_keep 20 = .ok (.iload_n 2, 1) := by decide +kernel
theorem dX11_keep_21 : decode cX11_keep 21 = .ok (.iconst 4, 1) := by decide +kernel
theorem dX11_keep_22 : decode cX11_keep 22 = .ok (.if_icmp .ge 24, 3) := by decide +kernel
theorem dX11_keep_25 : decode cX11_keep 25 = .ok (.iload_n 1, 1) := by decide +kernel
theorem dX11_keep_26 : decode cX11_keep 26 = .ok (.aload_n 0, 1) := by decide +kernel
theorem dX11_keep_27 : decode cX11_keep 27 = .ok (.getfield 10, 3) := by decide +kernel
theorem dX11_keep_30 : decode cX11_keep 30 = .ok (.getfield 78, 3) := by decide +kernel
theorem dX11_keep_33 : decode cX11_keep 33 = .ok (.iload_n 2, 1) := by decide +kernel
theorem dX11_keep_34 : decode cX11_keep 34 = .ok (.aaload, 1) := by decide +kernel
theorem dX11_keep_35 : decode cX11_keep 35 = .ok (.getfield 110, 3) := by decide +kernel
theorem dX11_keep_38 : decode cX11_keep 38 = .ok (.iadd, 1) := by decide +kernel
theorem dX11_keep_39 : decode cX11_keep 39 = .ok (.istore_n 1, 1) := by decide +kernel
theorem dX11_keep_40 : decode cX11_keep 40 = .ok (.iinc 2 1, 3) := by decide +kernel
theorem dX11_keep_43 : decode cX11_keep 43 = .ok (.goto (-23), 3) := by decide +kernel
theorem dX11_keep_46 : decode cX11_keep 46 = .ok (.iload_n 1, 1) := by decide +kernel
theorem dX11_keep_47 : decode cX11_keep 47 = .ok (.ireturn, 1) := by decide +kernel
set_option maxHeartbeats 4000000 in
set_option maxRecDepth 100000 in
theorem f_keep (l : Launch) (D : va_G) (cy : Nat → ClassId) (ad : Nat → Nat) (V J : Nat → Nat → Int) (Rr : Nat → Nat → Nat) (hV : VR V) (hJ : VJ J)  (hnp : NPl V 1) (hne : NPe V 1) (htl : V 58 1 = 0) (hbp : BPl V 1) (hbe : BPe V 1) (hwt : ∀ q, q < 4 → V (1 + 3 + 2 * q) 2 = 0) : xMi l D (xTY cy) yX11_keep cX11_keep 3 (some .int) 3 91 0 0 [.ref (ad 0)] (XW cy ad V J Rr) (fun u : xS => XW cy ad u.1 u.2.1 u.2.2) (fun r _ => r = 0) := by
  refine xMi.mk (lv0 := [(0, .ref (ad 0))]) (by decide) rfl (Nat.le_of_ble_eq_true rfl) (fun p e s m below meth c A C hr hnm hAe => ?_)
  have C : xC2 p s m _ meth c D A s.heap 3 cX11_keep RX11 (xTY cy) := C
  refine x_aload_n C.1 dX11_keep_0 0 rfl ?_
  refine x_getA C (N := 129) (i := 0) (by decide) rfl vc_X11 wx_X11 1 (by decide) wf_X11_16 (a := 20) rfl dX11_keep_1 ?_
  refine x_aload_n C.1 dX11_keep_4 0 rfl ?_
  refine x_getA C (N := 129) (i := 0) (by decide) rfl vc_X11 wx_X11 0 (by decide) wf_X11_10 (a := 1) rfl dX11_keep_5 ?_
  refine x_callVv C (As := [.ref (ad 1)]) (rest := []) 20 (xw_at (N := 129) (i := 20) (by omega) (xd_L (Or.inr (Or.inl rfl)))) vc_X3 (c_laCopy l D cy ad V J Rr hV hJ 20 1 (Or.inr (Or.inl rfl)) (Or.inl rfl) (by decide) hbp hbe) (l1 := []) (l2 := []) (List.append_nil _).symm (w2 := fun u : xS => XW cy ad u.1 u.2.1 u.2.2) (fun _ => List.append_nil _) rfl wm_yX3_copy wn_X3 wl_X11_142 wi_yX3_copy we_yX3_copy hd_yX3_copy rfl ⟨Nat.le_of_ble_eq_true rfl, Nat.le_of_ble_eq_true rfl⟩ (Nat.le_of_ble_eq_true rfl) ⟨Nat.le_of_ble_eq_true rfl, Nat.le_of_ble_eq_true rfl⟩ dX11_keep_8 (fun u1 h1 => ?_)
  obtain rfl := h1
  try dsimp only
  refine x_aload_n C.1 dX11_keep_11 0 rfl ?_
  refine x_iconst C.1 (n := 1) dX11_keep_12 ?_
  refine x_putI C (N := 129) (i := 0) (by decide) rfl vc_X11 wx_X11 3 (by decide) wf_X11_330 tyX11 tyX11_ok nmX11 rfl (tyX11_ok 3 (by decide)) rfl dX11_keep_13 (by decide) (by decide) ?_
  refine x_iconst C.1 (n := 0) dX11_keep_16 ?_
  refine x_istore_n C.1 (lv' := [(1, vI 0), (0, .ref (ad 0))]) dX11_keep_17 (by decide) rfl ?_
  refine x_iconst C.1 (n := 0) dX11_keep_18 ?_
  refine x_istore_n C.1 (lv' := [(2, vI 0), (1, vI 0), (0, .ref (ad 0))]) dX11_keep_19 (by decide) rfl ?_
  refine x_iload_n C.1 dX11_keep_20 0 rfl ?_
  refine x_iconst C.1 (n := 4) dX11_keep_21 ?_
  refine x_icmp_ge_f C.1 (tgt := 46) dX11_keep_22 (by decide) (by decide) (by decide) (by decide) ?_
  refine x_iload_n C.1 dX11_keep_25 1 rfl ?_
  refine x_aload_n C.1 dX11_keep_26 2 rfl ?_
  refine x_getA C (N := 129) (i := 0) (by decide) rfl vc_X11 wx_X11 0 (by decide) wf_X11_10 (a := 1) rfl dX11_keep_27 ?_
  refine x_getA C (N := 129) (i := 1) (by omega) (xd_L (Or.inl rfl)) vc_X3 wx_X3 0 (by decide) wf_X11_78 (a := 2) rfl dX11_keep_30 ?_
  refine x_iload_n C.1 dX11_keep_33 0 rfl ?_
  refine x_aldS C (N := 129) (i := 2) (q := 0) (t := 4) rfl (by omega) (xd_La (Or.inl rfl)) (by decide) (by decide) dX11_keep_34 (a := 1 + 3 + 2 * 0) rfl ?_
  refine x_getI C (N := 129) (i := 1 + 3 + 2 * 0) (Nat.lt_of_succ_lt (isPl_L (Or.inl rfl) (l := 0) (by omega)).1) (isPl_L (Or.inl rfl) (l := 0) (by omega)).2.1 vc_X5 wx_X5 2 (by decide) wf_X11_110 rfl dX11_keep_35 (a := 0) (by rw [up2_c _ _ (by decide), laCp_n (by decide)]; exact hwt 0 (by decide)) ?_
  refine x_iadd C.1 (v := 0) (by decide) dX11_keep_38 ?_
  refine x_istore_n C.1 (lv' := [(1, vI 0), (2, vI 0), (0, .ref (ad 0))]) dX11_keep_39 (by decide) rfl ?_
  refine x_iinc C.1 (v := 1) (lv' := [(2, vI 1), (1, vI 0), (0, .ref (ad 0))]) (by decide) dX11_keep_40 1 rfl (by decide) rfl ?_
  refine x_goto C.1 (tgt := 20) dX11_keep_43 (by decide) ?_
  refine x_iload_n C.1 dX11_keep_20 0 rfl ?_
  refine x_iconst C.1 (n := 4) dX11_keep_21 ?_
  refine x_icmp_ge_f C.1 (tgt := 46) dX11_keep_22 (by decide) (by decide) (by decide) (by decide) ?_
  refine x_iload_n C.1 dX11_keep_25 1 rfl ?_
  refine x_aload_n C.1 dX11_keep_26 2 rfl ?_
  refine x_getA C (N := 129) (i := 0) (by decide) rfl vc_X11 wx_X11 0 (by decide) wf_X11_10 (a := 1) rfl dX11_keep_27 ?_
  refine x_getA C (N := 129) (i := 1) (by omega) (xd_L (Or.inl rfl)) vc_X3 wx_X3 0 (by decide) wf_X11_78 (a := 2) rfl dX11_keep_30 ?_
  refine x_iload_n C.1 dX11_keep_33 0 rfl ?_
  refine x_aldS C (N := 129) (i := 2) (q := 1) (t := 4) rfl (by omega) (xd_La (Or.inl rfl)) (by decide) (by decide) dX11_keep_34 (a := 1 + 3 + 2 * 1) rfl ?_
  refine x_getI C (N := 129) (i := 1 + 3 + 2 * 1) (Nat.lt_of_succ_lt (isPl_L (Or.inl rfl) (l := 1) (by omega)).1) (isPl_L (Or.inl rfl) (l := 1) (by omega)).2.1 vc_X5 wx_X5 2 (by decide) wf_X11_110 rfl dX11_keep_35 (a := 0) (by rw [up2_c _ _ (by decide), laCp_n (by decide)]; exact hwt 1 (by decide)) ?_
  refine x_iadd C.1 (v := 0) (by decide) dX11_keep_38 ?_
  refine x_istore_n C.1 (lv' := [(1, vI 0), (2, vI 1), (0, .ref (ad 0))]) dX11_keep_39 (by decide) rfl ?_
  refine x_iinc C.1 (v := 2) (lv' := [(2, vI 2), (1, vI 0), (0, .ref (ad 0))]) (by decide) dX11_keep_40 1 rfl (by decide) rfl ?_
  refine x_goto C.1 (tgt := 20) dX11_keep_43 (by decide) ?_
  refine x_iload_n C.1 dX11_keep_20 0 rfl ?_
  refine x_iconst C.1 (n := 4) dX11_keep_21 ?_
  refine x_icmp_ge_f C.1 (tgt := 46) dX11_keep_22 (by decide) (by decide) (by decide) (by decide) ?_
  refine x_iload_n C.1 dX11_keep_25 1 rfl ?_
  refine x_aload_n C.1 dX11_keep_26 2 rfl ?_
  refine x_getA C (N := 129) (i := 0) (by decide) rfl vc_X11 wx_X11 0 (by decide) wf_X11_10 (a := 1) rfl dX11_keep_27 ?_
  refine x_getA C (N := 129) (i := 1) (by omega) (xd_L (Or.inl rfl)) vc_X3 wx_X3 0 (by decide) wf_X11_78 (a := 2) rfl dX11_keep_30 ?_
  refine x_iload_n C.1 dX11_keep_33 0 rfl ?_
  refine x_aldS C (N := 129) (i := 2) (q := 2) (t := 4) rfl (by omega) (xd_La (Or.inl rfl)) (by decide) (by decide) dX11_keep_34 (a := 1 + 3 + 2 * 2) rfl ?_
  refine x_getI C (N := 129) (i := 1 + 3 + 2 * 2) (Nat.lt_of_succ_lt (isPl_L (Or.inl rfl) (l := 2) (by omega)).1) (isPl_L (Or.inl rfl) (l := 2) (by omega)).2.1 vc_X5 wx_X5 2 (by decide) wf_X11_110 rfl dX11_keep_35 (a := 0) (by rw [up2_c _ _ (by decide), laCp_n (by decide)]; exact hwt 2 (by decide)) ?_
  refine x_iadd C.1 (v := 0) (by decide) dX11_keep_38 ?_
  refine x_istore_n C.1 (lv' := [(1, vI 0), (2, vI 2), (0, .ref (ad 0))]) dX11_keep_39 (by decide) rfl ?_
  refine x_iinc C.1 (v := 3) (lv' := [(2, vI 3), (1, vI 0), (0, .ref (ad 0))]) (by decide) dX11_keep_40 1 rfl (by decide) rfl ?_
  refine x_goto C.1 (tgt := 20) dX11_keep_43 (by decide) ?_
  refine x_iload_n C.1 dX11_keep_20 0 rfl ?_
  refine x_iconst C.1 (n := 4) dX11_keep_21 ?_
  refine x_icmp_ge_f C.1 (tgt := 46) dX11_keep_22 (by decide) (by decide) (by decide) (by decide) ?_
  refine x_iload_n C.1 dX11_keep_25 1 rfl ?_
  refine x_aload_n C.1 dX11_keep_26 2 rfl ?_
  refine x_getA C (N := 129) (i := 0) (by decide) rfl vc_X11 wx_X11 0 (by decide) wf_X11_10 (a := 1) rfl dX11_keep_27 ?_
  refine x_getA C (N := 129) (i := 1) (by omega) (xd_L (Or.inl rfl)) vc_X3 wx_X3 0 (by decide) wf_X11_78 (a := 2) rfl dX11_keep_30 ?_
  refine x_iload_n C.1 dX11_keep_33 0 rfl ?_
  refine x_aldS C (N := 129) (i := 2) (q := 3) (t := 4) rfl (by omega) (xd_La (Or.inl rfl)) (by decide) (by decide) dX11_keep_34 (a := 1 + 3 + 2 * 3) rfl ?_
  refine x_getI C (N := 129) (i := 1 + 3 + 2 * 3) (Nat.lt_of_succ_lt (isPl_L (Or.inl rfl) (l := 3) (by omega)).1) (isPl_L (Or.inl rfl) (l := 3) (by omega)).2.1 vc_X5 wx_X5 2 (by decide) wf_X11_110 rfl dX11_keep_35 (a := 0) (by rw [up2_c _ _ (by decide), laCp_n (by decide)]; exact hwt 3 (by decide)) ?_
  refine x_iadd C.1 (v := 0) (by decide) dX11_keep_38 ?_
  refine x_istore_n C.1 (lv' := [(1, vI 0), (2, vI 3), (0, .ref (ad 0))]) dX11_keep_39 (by decide) rfl ?_
  refine x_iinc C.1 (v := 4) (lv' := [(2, vI 4), (1, vI 0), (0, .ref (ad 0))]) (by decide) dX11_keep_40 1 rfl (by decide) rfl ?_
  refine x_goto C.1 (tgt := 20) dX11_keep_43 (by decide) ?_
  refine x_iload_n C.1 dX11_keep_20 0 rfl ?_
  refine x_iconst C.1 (n := 4) dX11_keep_21 ?_
  refine x_icmp_ge_t C.1 (tgt := 46) dX11_keep_22 (by decide) (by decide) (by decide) (by decide) ?_
  refine x_iload_n C.1 dX11_keep_46 1 rfl ?_
  exact x_iret (S := xS) (post := fun r _ => r = 0) (w1 := fun u : xS => XW cy ad u.1 u.2.1 u.2.2) (a := 0) C hr rfl dX11_keep_47 (by decide) ((up2 (laCp V 1 20) 0 3 1), J, Rr) rfl (by omega)
theorem hd_yX8_add : yX8_add.cls ≠ "java/lang/invoke/MethodHandle" ∧ yX8_add.cls ≠ "java/lang/invoke/VarHandle" ∧ (parseMethodDescriptor yX8_add.desc).map (fun d => d.parameters.length) = some 1 := by decide +kernel
theorem hd_yX8_hasRoom : yX8_hasRoom.cls ≠ "java/lang/invoke/MethodHandle" ∧ yX8_hasRoom.cls ≠ "java/lang/invoke/VarHandle" ∧ (parseMethodDescriptor yX8_hasRoom.desc).map (fun d => d.parameters.length) = some 1 := by decide +kernel
theorem dX11_feed_0 : decode cX11_feed 0 = .ok (.aload_n 0, 1) := by decide +kernel
theorem dX11_feed_1 : decode cX11_feed 1 = .ok (.getfield 25, 3) := by decide +kernel
theorem dX11_feed_4 : decode cX11_feed 4 = .ok (.bipush 20, 2) := by decide +kernel
theorem dX11_feed_6 : decode cX11_feed 6 = .ok (.invokevirtual 113, 3) := by decide +kernel
theorem dX11_feed_9 : decode cX11_feed 9 = .ok (.ifCond .ne 5, 3) := by decide +kernel
theorem dX11_feed_12 : decode cX11_feed 12 = .ok (.iconst (-1), 1) := by decide +kernel
theorem dX11_feed_13 : decode cX11_feed 13 = .ok (.ireturn, 1) := by decide +kernel
theorem dX11_feed_14 : decode cX11_feed 14 = .ok (.aload_n 0, 1) := by decide +kernel
theorem dX11_feed_15 : decode cX11_feed 15 = .ok (.getfield 25, 3) := by decide +kernel
theorem dX11_feed_18 : decode cX11_feed 18 = .ok (.iload_n 1, 1) := by decide +kernel
theorem dX11_feed_19 : decode cX11_feed 19 = .ok (.invokevirtual 116, 3) := by decide +kernel
theorem dX11_feed_22 : decode cX11_feed 22 = .ok (.aload_n 0, 1) := by decide +kernel
theorem dX11_feed_23 : decode cX11_feed 23 = .ok (.getfield 25, 3) := by decide +kernel
theorem dX11_feed_26 : decode cX11_feed 26 = .ok (.iload_n 2, 1) := by decide +kernel
theorem dX11_feed_27 : decode cX11_feed 27 = .ok (.invokevirtual 116, 3) := by decide +kernel
theorem dX11_feed_30 : decode cX11_feed 30 = .ok (.aload_n 0, 1) := by decide +kernel
theorem dX11_feed_31 : decode cX11_feed 31 = .ok (.getfield 25, 3) := by decide +kernel
theorem dX11_feed_34 : decode cX11_feed 34 = .ok (.iload_n 3, 1) := by decide +kernel
theorem dX11_feed_35 : decode cX11_feed 35 = .ok (.invokevirtual 116, 3) := by decide +kernel
theorem dX11_feed_38 : decode cX11_feed 38 = .ok (.aload_n 0, 1) := by decide +kernel
theorem dX11_feed_39 : decode cX11_feed 39 = .ok (.getfield 25, 3) := by decide +kernel
theorem dX11_feed_42 : decode cX11_feed 42 = .ok (.iload 4, 2) := by decide +kernel
theorem dX11_feed_44 : decode cX11_feed 44 = .ok (.invokevirtual 116, 3) := by decide +kernel
theorem dX11_feed_47 : decode cX11_feed 47 = .ok (.aload_n 0, 1) := by decide +kernel
theorem dX11_feed_48 : decode cX11_feed 48 = .ok (.getfield 25, 3) := by decide +kernel
theorem dX11_feed_51 : decode cX11_feed 51 = .ok (.iload 5, 2) := by decide +kernel
theorem dX11_feed_53 : decode cX11_feed 53 = .ok (.invokevirtual 116, 3) := by decide +kernel
theorem dX11_feed_56 : decode cX11_feed 56 = .ok (.aload_n 0, 1) := by decide +kernel
theorem dX11_feed_57 : decode cX11_feed 57 = .ok (.getfield 25, 3) := by decide +kernel
theorem dX11_feed_60 : decode cX11_feed 60 = .ok (.getfield 120, 3) := by decide +kernel
theorem dX11_feed_63 : decode cX11_feed 63 = .ok (.ireturn, 1) := by decide +kernel
set_option maxHeartbeats 4000000 in
set_option maxRecDepth 100000 in
theorem f_feed (l : Launch) (D : va_G) (cy : Nat → ClassId) (ad : Nat → Nat) (V J : Nat → Nat → Int) (Rr : Nat → Nat → Nat) (hV : VR V) (hJ : VJ J) (x1 x2 x3 x4 x5 : Int) (hx1 : R32 x1) (hx2 : R32 x2) (hx3 : R32 x3) (hx4 : R32 x4) (hx5 : R32 x5) (hnp : NPl V 1) (hne : NPe V 1) (htl : V 58 1 = 0) : xMi l D (xTY cy) yX11_feed cX11_feed 6 (some .int) 1 22 0 0 [.ref (ad 0), vI x1, vI x2, vI x3, vI x4, vI x5] (XW cy ad V J Rr) (fun u : xS => XW cy ad u.1 u.2.1 u.2.2) (fun r _ => r = 20) := by
  refine xMi.mk (lv0 := [(0, .ref (ad 0)), (1, vI x1), (2, vI x2), (3, vI x3), (4, vI x4), (5, vI x5)]) (by decide) rfl (Nat.le_of_ble_eq_true rfl) (fun p e s m below meth c A C hr hnm hAe => ?_)
  have C : xC2 p s m _ meth c D A s.heap 6 cX11_feed RX11 (xTY cy) := C
  refine x_aload_n C.1 dX11_feed_0 0 rfl ?_
  refine x_getA C (N := 129) (i := 0) (by decide) rfl vc_X11 wx_X11 4 (by decide) wf_X11_25 (a := 58) rfl dX11_feed_1 ?_
  refine x_bipush C.1 (n := 20) dX11_feed_4 ?_
  refine x_callVi C (As := [vI 20]) (rest := []) 58 (xw_at (N := 129) (i := 58) (by decide) rfl) vc_X8 (c_hasRoom l D cy ad V J Rr hV hJ 20 (by decide) (by decide) (by omega)) (l1 := []) (l2 := []) (List.append_nil _).symm (w2 := fun _ => XW cy ad V J Rr) (fun _ => List.append_nil _) rfl wm_yX8_hasRoom wn_X8 wl_X11_113 wi_yX8_hasRoom we_yX8_hasRoom hd_yX8_hasRoom rfl ⟨Nat.le_of_ble_eq_true rfl, Nat.le_of_ble_eq_true rfl⟩ (Nat.le_of_ble_eq_true rfl) ⟨Nat.le_of_ble_eq_true rfl, Nat.le_of_ble_eq_true rfl⟩ dX11_feed_6 (fun r1 u1 hr1 h1 => ?_)
  rcases h1 with ⟨rfl, t1⟩ | ⟨rfl, t1⟩
  · refine x_if_ne_t C.1 (tgt := 14) dX11_feed_9 (by decide) (by decide) (by decide) ?_
    refine x_aload_n C.1 dX11_feed_14 0 rfl ?_
    refine x_getA C (N := 129) (i := 0) (by decide) rfl vc_X11 wx_X11 4 (by decide) wf_X11_25 (a := 58) rfl dX11_feed_15 ?_
    refine x_iload_n C.1 dX11_feed_18 1 rfl ?_
    refine x_callVv C (As := [vI x1]) (rest := []) 58 (xw_at (N := 129) (i := 58) (by decide) rfl) vc_X8 (c_add l D cy ad V J Rr hV hJ x1 hx1 (by omega)) (l1 := []) (l2 := []) (List.append_nil _).symm (w2 := fun u : xS => XW cy ad u.1 u.2.1 u.2.2) (fun _ => List.append_nil _) rfl wm_yX8_add wn_X8 wl_X11_116 wi_yX8_add we_yX8_add hd_yX8_add rfl ⟨Nat.le_of_ble_eq_true rfl, Nat.le_of_ble_eq_true rfl⟩ (Nat.le_of_ble_eq_true rfl) ⟨Nat.le_of_ble_eq_true rfl, Nat.le_of_ble_eq_true rfl⟩ dX11_feed_19 (fun u2 h2 => ?_)
    obtain ⟨zV2, zJ2, zR2⟩ := u2
    obtain ⟨hza2, hzb2, hzc2, hzd2⟩ := h2
    obtain ⟨rfl, rfl⟩ := Prod.mk.inj hzd2
    try dsimp only at hza2 hzb2 ⊢
    refine x_aload_n C.1 dX11_feed_22 0 rfl ?_
    refine x_getA C (N := 129) (i := 0) (by decide) rfl vc_X11 wx_X11 4 (by decide) wf_X11_25 (a := 58) rfl dX11_feed_23 ?_
    refine x_iload_n C.1 dX11_feed_26 2 rfl ?_
    refine x_callVv C (As := [vI x2]) (rest := []) 58 (xw_at (N := 129) (i := 58) (by decide) rfl) vc_X8 (c_add l D cy ad zV2 J Rr hzb2 hJ x2 hx2 (by omega)) (l1 := []) (l2 := []) (List.append_nil _).symm (w2 := fun u : xS => XW cy ad u.1 u.2.1 u.2.2) (fun _ => List.append_nil _) rfl wm_yX8_add wn_X8 wl_X11_116 wi_yX8_add we_yX8_add hd_yX8_add rfl ⟨Nat.le_of_ble_eq_true rfl, Nat.le_of_ble_eq_true rfl⟩ (Nat.le_of_ble_eq_true rfl) ⟨Nat.le_of_ble_eq_true rfl, Nat.le_of_ble_eq_true rfl⟩ dX11_feed_27 (fun u3 h3 => ?_)
    obtain ⟨zV3, zJ3, zR3⟩ := u3
    obtain ⟨hza3, hzb3, hzc3, hzd3⟩ := h3
    obtain ⟨rfl, rfl⟩ := Prod.mk.inj hzd3
    try dsimp only at hza3 hzb3 ⊢
    refine x_aload_n C.1 dX11_feed_30 0 rfl ?_
    refine x_getA C (N := 129) (i := 0) (by decide) rfl vc_X11 wx_X11 4 (by decide) wf_X11_25 (a := 58) rfl dX11_feed_31 ?_
    refine x_iload_n C.1 dX11_feed_34 3 rfl ?_
    refine x_callVv C (As := [vI x3]) (rest := []) 58 (xw_at (N := 129) (i := 58) (by decide) rfl) vc_X8 (c_add l D cy ad zV3 J Rr hzb3 hJ x3 hx3 (by omega)) (l1 := []) (l2 := []) (List.append_nil _).symm (w2 := fun u : xS => XW cy ad u.1 u.2.1 u.2.2) (fun _ => List.append_nil _) rfl wm_yX8_add wn_X8 wl_X11_116 wi_yX8_add we_yX8_add hd_yX8_add rfl ⟨Nat.le_of_ble_eq_true rfl, Nat.le_of_ble_eq_true rfl⟩ (Nat.le_of_ble_eq_true rfl) ⟨Nat.le_of_ble_eq_true rfl, Nat.le_of_ble_eq_true rfl⟩ dX11_feed_35 (fun u4 h4 => ?_)
    obtain ⟨zV4, zJ4, zR4⟩ := u4
    obtain ⟨hza4, hzb4, hzc4, hzd4⟩ := h4
    obtain ⟨rfl, rfl⟩ := Prod.mk.inj hzd4
    try dsimp only at hza4 hzb4 ⊢
    refine x_aload_n C.1 dX11_feed_38 0 rfl ?_
    refine x_getA C (N := 129) (i := 0) (by decide) rfl vc_X11 wx_X11 4 (by decide) wf_X11_25 (a := 58) rfl dX11_feed_39 ?_
    refine x_iload C.1 dX11_feed_42 4 rfl ?_
    refine x_callVv C (As := [vI x4]) (rest := []) 58 (xw_at (N := 129) (i := 58) (by decide) rfl) vc_X8 (c_add l D cy ad zV4 J Rr hzb4 hJ x4 hx4 (by omega)) (l1 := []) (l2 := []) (List.append_nil _).symm (w2 := fun u : xS => XW cy ad u.1 u.2.1 u.2.2) (fun _ => List.append_nil _) rfl wm_yX8_add wn_X8 wl_X11_116 wi_yX8_add we_yX8_add hd_yX8_add rfl ⟨Nat.le_of_ble_eq_true rfl, Nat.le_of_ble_eq_true rfl⟩ (Nat.le_of_ble_eq_true rfl) ⟨Nat.le_of_ble_eq_true rfl, Nat.le_of_ble_eq_true rfl⟩ dX11_feed_44 (fun u5 h5 => ?_)
    obtain ⟨zV5, zJ5, zR5⟩ := u5
    obtain ⟨hza5, hzb5, hzc5, hzd5⟩ := h5
    obtain ⟨rfl, rfl⟩ := Prod.mk.inj hzd5
    try dsimp only at hza5 hzb5 ⊢
    refine x_aload_n C.1 dX11_feed_47 0 rfl ?_
    refine x_getA C (N := 129) (i := 0) (by decide) rfl vc_X11 wx_X11 4 (by decide) wf_X11_25 (a := 58) rfl dX11_feed_48 ?_
    refine x_iload C.1 dX11_feed_51 5 rfl ?_
    refine x_callVv C (As := [vI x5]) (rest := []) 58 (xw_at (N := 129) (i := 58) (by decide) rfl) vc_X8 (c_add l D cy ad zV5 J Rr hzb5 hJ x5 hx5 (by omega)) (l1 := []) (l2 := []) (List.append_nil _).symm (w2 := fun u : xS => XW cy ad u.1 u.2.1 u.2.2) (fun _ => List.append_nil _) rfl wm_yX8_add wn_X8 wl_X11_116 wi_yX8_add we_yX8_add hd_yX8_add rfl ⟨Nat.le_of_ble_eq_true rfl, Nat.le_of_ble_eq_true rfl⟩ (Nat.le_of_ble_eq_true rfl) ⟨Nat.le_of_ble_eq_true rfl, Nat.le_of_ble_eq_true rfl⟩ dX11_feed_53 (fun u6 h6 => ?_)
    obtain ⟨zV6, zJ6, zR6⟩ := u6
    obtain ⟨hza6, hzb6, hzc6, hzd6⟩ := h6
    obtain ⟨rfl, rfl⟩ := Prod.mk.inj hzd6
    try dsimp only at hza6 hzb6 ⊢
    refine x_aload_n C.1 dX11_feed_56 0 rfl ?_
    refine x_getA C (N := 129) (i := 0) (by decide) rfl vc_X11 wx_X11 4 (by decide) wf_X11_25 (a := 58) rfl dX11_feed_57 ?_
    refine x_getI C (N := 129) (i := 58) (by decide) rfl vc_X8 wx_X8 1 (by decide) wf_X11_120 rfl dX11_feed_60 (a := 20) (by omega) ?_
    exact x_iret (S := xS) (post := fun r _ => r = 20) (w1 := fun u : xS => XW cy ad u.1 u.2.1 u.2.2) (a := 20) C hr rfl dX11_feed_63 (by decide) (zV6, J, Rr) rfl (by omega)
  · refine x_if_ne_f C.1 (tgt := 14) dX11_feed_9 (by decide) (by decide) (by decide) ?_
    refine x_iconst C.1 (n := -1) dX11_feed_12 ?_
    exact x_iret (S := xS) (post := fun r _ => r = 20) (w1 := fun u : xS => XW cy ad u.1 u.2.1 u.2.2) (a := (-1)) C hr rfl dX11_feed_13 (by decide) (V, J, Rr) rfl (by omega)
