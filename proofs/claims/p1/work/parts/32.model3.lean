theorem dX12_tens_0 : decode cX12_tens 0 = .ok (.lconst 1, 1) := by decide +kernel
theorem dX12_tens_1 : decode cX12_tens 1 = .ok (.lstore_n 1, 1) := by decide +kernel
theorem dX12_tens_2 : decode cX12_tens 2 = .ok (.iconst 0, 1) := by decide +kernel
theorem dX12_tens_3 : decode cX12_tens 3 = .ok (.istore_n 3, 1) := by decide +kernel
theorem dX12_tens_4 : decode cX12_tens 4 = .ok (.iload_n 3, 1) := by decide +kernel
theorem dX12_tens_5 : decode cX12_tens 5 = .ok (.iload_n 0, 1) := by decide +kernel
theorem dX12_tens_6 : decode cX12_tens 6 = .ok (.if_icmp .ge 15, 3) := by decide +kernel
theorem dX12_tens_9 : decode cX12_tens 9 = .ok (.lload_n 1, 1) := by decide +kernel
theorem dX12_tens_10 : decode cX12_tens 10 = .ok (.ldc2_w 112, 3) := by decide +kernel
theorem dX12_tens_13 : decode cX12_tens 13 = .ok (.lmul, 1) := by decide +kernel
theorem dX12_tens_14 : decode cX12_tens 14 = .ok (.lstore_n 1, 1) := by decide +kernel
theorem dX12_tens_15 : decode cX12_tens 15 = .ok (.iinc 3 1, 3) := by decide +kernel
theorem dX12_tens_18 : decode cX12_tens 18 = .ok (.goto (-14), 3) := by decide +kernel
theorem dX12_tens_21 : decode cX12_tens 21 = .ok (.lload_n 1, 1) := by decide +kernel
theorem dX12_tens_22 : decode cX12_tens 22 = .ok (.lreturn, 1) := by decide +kernel
set_option maxHeartbeats 4000000 in
set_option maxRecDepth 100000 in
theorem c_tens (l : Launch) (D : va_G) (cy : Nat → ClassId) (x1 : Int) (hx1 : R32 x1) (hr1 : x1 ≤ 18) : xMl l D (xTY cy) yX12_tens cX12_tens 4 (some .long) 0 0 0 0 [vI x1] [] (fun _ : Unit => []) (fun r _ => r = (10 : Int) ^ x1.toNat) := by
  refine xMl.mk (lv0 := [(0, vI x1)]) (by decide) rfl (Nat.le_of_ble_eq_true rfl) (fun p e s m below meth c A C hr hnm hAe => ?_)
  have C : xC2 p s m _ meth c D A s.heap 4 cX12_tens RX12 (xTY cy) := C
  refine x_lconst1 C.1 dX12_tens_0 ?_
  refine x_lstore_n C.1 (lv' := [(1, vJ 1), (0, vI x1)]) dX12_tens_1 (by decide) rfl ?_
  refine x_iconst C.1 (n := 0) dX12_tens_2 ?_
  refine x_istore_n C.1 (lv' := [(3, vI 0), (1, vJ 1), (0, vI x1)]) dX12_tens_3 (by decide) rfl ?_
  refine x_loop (I := fun zi : Nat => zi ≤ x1.toNat) (μ := fun zi : Nat => x1.toNat - zi) (wsf := fun zi : Nat => []) (lvf := fun zi : Nat => [(3, vI (zi : Int)), (1, vJ ((10 : Int) ^ zi)), (0, vI x1)]) (fun zi hI ih1 => ?_) (0) (Nat.zero_le _) rfl rfl
  obtain hz1 := hI
  try dsimp only
  refine x_iload_n C.1 dX12_tens_4 0 rfl ?_
  refine x_iload_n C.1 dX12_tens_5 2 rfl ?_
  refine x_icmp_ge C.1 (tgt := 21) dX12_tens_6 (by decide) (by omega) hx1 (fun c6_2 => ?_) (fun c6_2 => ?_)
  · refine x_lload_n C.1 dX12_tens_21 1 rfl ?_
    exact x_lret (S := Unit) (post := fun r _ => r = (10 : Int) ^ x1.toNat) (w1 := fun _ : Unit => []) (a := (10 : Int) ^ zi) C hr rfl dX12_tens_22 (p10_R64 (by omega)) () rfl (by rw [show zi = x1.toNat by omega])
  · refine x_lload_n C.1 dX12_tens_9 1 rfl ?_
    refine x_ldc2 C.1 (n := 10) wq_X12_112 dX12_tens_10 ?_
    refine x_lmul C.1 (v := ((10 : Int) ^ zi) * 10) rfl dX12_tens_13 ?_
    refine x_lstore_n C.1 (lv' := [(1, vJ (((10 : Int) ^ zi) * 10)), (3, vI (zi : Int)), (0, vI x1)]) dX12_tens_14 (by decide) rfl ?_
    refine x_iinc C.1 (v := (zi : Int) + 1) (lv' := [(3, vI ((zi : Int) + 1)), (1, vJ (((10 : Int) ^ zi) * 10)), (0, vI x1)]) rfl dX12_tens_15 1 rfl (by decide) rfl ?_
    refine x_goto C.1 (tgt := 4) dX12_tens_18 (by decide) ?_
    rw [← Int.natCast_add_one, ← Int.pow_succ]
    exact ih1 (zi + 1) (by omega) (by omega)
theorem dX12_feels_0 : decode cX12_feels 0 = .ok (.iconst 0, 1) := by decide +kernel
theorem dX12_feels_1 : decode cX12_feels 1 = .ok (.istore_n 1, 1) := by decide +kernel
theorem dX12_feels_2 : decode cX12_feels 2 = .ok (.iload_n 1, 1) := by decide +kernel
theorem dX12_feels_3 : decode cX12_feels 3 = .ok (.bipush 13, 2) := by decide +kernel
theorem dX12_feels_5 : decode cX12_feels 5 = .ok (.if_icmp .ge 16, 3) := by decide +kernel
theorem dX12_feels_8 : decode cX12_feels 8 = .ok (.aload_n 0, 1) := by decide +kernel
theorem dX12_feels_9 : decode cX12_feels 9 = .ok (.getfield 62, 3) := by decide +kernel
theorem dX12_feels_12 : decode cX12_feels 12 = .ok (.iload_n 1, 1) := by decide +kernel
theorem dX12_feels_13 : decode cX12_feels 13 = .ok (.iconst 0, 1) := by decide +kernel
theorem dX12_feels_14 : decode cX12_feels 14 = .ok (.iastore, 1) := by decide +kernel
theorem dX12_feels_15 : decode cX12_feels 15 = .ok (.iinc 1 1, 3) := by decide +kernel
theorem dX12_feels_18 : decode cX12_feels 18 = .ok (.goto (-16), 3) := by decide +kernel
theorem dX12_feels_21 : decode cX12_feels 21 = .ok (.aload_n 0, 1) := by decide +kernel
theorem dX12_feels_22 : decode cX12_feels 22 = .ok (.getfield 62, 3) := by decide +kernel
theorem dX12_feels_25 : decode cX12_feels 25 = .ok (.iconst 0, 1) := by decide +kernel
theorem dX12_feels_26 : decode cX12_feels 26 = .ok (.aload_n 0, 1) := by decide +kernel
theorem dX12_feels_27 : decode cX12_feels 27 = .ok (.getfield 7, 3) := by decide +kernel
theorem dX12_feels_30 : decode cX12_feels 30 = .ok (.bipush 79, 2) := by decide +kernel
theorem dX12_feels_32 : decode cX12_feels 32 = .ok (.iaload, 1) := by decide +kernel
theorem dX12_feels_33 : decode cX12_feels 33 = .ok (.iastore, 1) := by decide +kernel
theorem dX12_feels_34 : decode cX12_feels 34 = .ok (.aload_n 0, 1) := by decide +kernel
theorem dX12_feels_35 : decode cX12_feels 35 = .ok (.getfield 62, 3) := by decide +kernel
theorem dX12_feels_38 : decode cX12_feels 38 = .ok (.iconst 1, 1) := by decide +kernel
theorem dX12_feels_39 : decode cX12_feels 39 = .ok (.aload_n 0, 1) := by decide +kernel
theorem dX12_feels_40 : decode cX12_feels 40 = .ok (.getfield 7, 3) := by decide +kernel
theorem dX12_feels_43 : decode cX12_feels 43 = .ok (.bipush 79, 2) := by decide +kernel
theorem dX12_feels_45 : decode cX12_feels 45 = .ok (.iaload, 1) := by decide +kernel
theorem dX12_feels_46 : decode cX12_feels 46 = .ok (.bipush 7, 2) := by decide +kernel
theorem dX12_feels_48 : decode cX12_feels 48 = .ok (.irem, 1) := by decide +kernel
theorem dX12_feels_49 : decode cX12_feels 49 = .ok (.iastore, 1) := by decide +kernel
theorem dX12_feels_50 : decode cX12_feels 50 = .ok (.aload_n 0, 1) := by decide +kernel
theorem dX12_feels_51 : decode cX12_feels 51 = .ok (.getfield 62, 3) := by decide +kernel
theorem dX12_feels_54 : decode cX12_feels 54 = .ok (.bipush 10, 2) := by decide +kernel
theorem dX12_feels_56 : decode cX12_feels 56 = .ok (.aload_n 0, 1) := by decide +kernel
theorem dX12_feels_57 : decode cX12_feels 57 = .ok (.getfield 7, 3) := by decide +kernel
theorem dX12_feels_60 : decode cX12_feels 60 = .ok (.bipush 78, 2) := by decide +kernel
theorem dX12_feels_62 : decode cX12_feels 62 = .ok (.iaload, 1) := by decide +kernel
theorem dX12_feels_63 : decode cX12_feels 63 = .ok (.invokestatic 247, 3) := by decide +kernel
theorem dX12_feels_66 : decode cX12_feels 66 = .ok (.iastore, 1) := by decide +kernel
theorem dX12_feels_67 : decode cX12_feels 67 = .ok (.return_, 1) := by decide +kernel
set_option maxHeartbeats 4000000 in
set_option maxRecDepth 100000 in
theorem g_feels (l : Launch) (D : va_G) (cy : Nat → ClassId) (ad : Nat → Nat) (V J : Nat → Nat → Int) (Rr : Nat → Nat → Nat) (hV : VR V) (hJ : VJ J)  (h78 : V 1 78 = 0) : xMv l D (xTY cy) yX12_feels cX12_feels 2 none 1 22 0 0 [.ref (ad 0)] (MW cy ad V J Rr) (fun u : xS => MW cy ad u.1 u.2.1 u.2.2) (fun u => VR u.1 ∧ (∀ j, j ≠ 18 → u.1 j = V j) ∧ (J, Rr) = u.2) := by
  refine xMv.mk (lv0 := [(0, .ref (ad 0))]) (by decide) rfl (Nat.le_of_ble_eq_true rfl) (fun p e s m below meth c A C hr hnm hAe => ?_)
  have C : xC2 p s m _ meth c D A s.heap 2 cX12_feels RX12 (xTY cy) := C
  refine x_iconst C.1 (n := 0) dX12_feels_0 ?_
  refine x_istore_n C.1 (lv' := [(1, vI 0), (0, .ref (ad 0))]) dX12_feels_1 (by decide) rfl ?_
  refine x_iload_n C.1 dX12_feels_2 0 rfl ?_
  refine x_bipush C.1 (n := 13) dX12_feels_3 ?_
  refine x_icmp_ge_f C.1 (tgt := 21) dX12_feels_5 (by decide) (by decide) (by decide) (by decide) ?_
  refine x_aload_n C.1 dX12_feels_8 1 rfl ?_
  refine x_getA C (N := 33) (i := 0) (by decide) rfl vc_X12 wx_X12 26 (by decide) wf_X12_62 (a := 18) rfl dX12_feels_9 ?_
  refine x_iload_n C.1 dX12_feels_12 0 rfl ?_
  refine x_iconst C.1 (n := 0) dX12_feels_13 ?_
  refine x_iast C (N := 33) (i := 18) (q := 0) (a := 0) (by decide) rfl (by decide) (by decide) dX12_feels_14 ?_
  rw [show (0 : Int).toNat = 0 from rfl]
  refine x_iinc C.1 (v := 1) (lv' := [(1, vI 1), (0, .ref (ad 0))]) (by decide) dX12_feels_15 0 rfl (by decide) rfl ?_
  refine x_goto C.1 (tgt := 2) dX12_feels_18 (by decide) ?_
  refine x_iload_n C.1 dX12_feels_2 0 rfl ?_
  refine x_bipush C.1 (n := 13) dX12_feels_3 ?_
  refine x_icmp_ge_f C.1 (tgt := 21) dX12_feels_5 (by decide) (by decide) (by decide) (by decide) ?_
  refine x_aload_n C.1 dX12_feels_8 1 rfl ?_
  refine x_getA C (N := 33) (i := 0) (by decide) rfl vc_X12 wx_X12 26 (by decide) wf_X12_62 (a := 18) rfl dX12_feels_9 ?_
  refine x_iload_n C.1 dX12_feels_12 0 rfl ?_
  refine x_iconst C.1 (n := 0) dX12_feels_13 ?_
  refine x_iast C (N := 33) (i := 18) (q := 1) (a := 0) (by decide) rfl (by decide) (by decide) dX12_feels_14 ?_
  rw [show (1 : Int).toNat = 1 from rfl]
  refine x_iinc C.1 (v := 2) (lv' := [(1, vI 2), (0, .ref (ad 0))]) (by decide) dX12_feels_15 0 rfl (by decide) rfl ?_
  refine x_goto C.1 (tgt := 2) dX12_feels_18 (by decide) ?_
  refine x_iload_n C.1 dX12_feels_2 0 rfl ?_
  refine x_bipush C.1 (n := 13) dX12_feels_3 ?_
  refine x_icmp_ge_f C.1 (tgt := 21) dX12_feels_5 (by decide) (by decide) (by decide) (by decide) ?_
  refine x_aload_n C.1 dX12_feels_8 1 rfl ?_
  refine x_getA C (N := 33) (i := 0) (by decide) rfl vc_X12 wx_X12 26 (by decide) wf_X12_62 (a := 18) rfl dX12_feels_9 ?_
  refine x_iload_n C.1 dX12_feels_12 0 rfl ?_
  refine x_iconst C.1 (n := 0) dX12_feels_13 ?_
  refine x_iast C (N := 33) (i := 18) (q := 2) (a := 0) (by decide) rfl (by decide) (by decide) dX12_feels_14 ?_
  rw [show (2 : Int).toNat = 2 from rfl]
  refine x_iinc C.1 (v := 3) (lv' := [(1, vI 3), (0, .ref (ad 0))]) (by decide) dX12_feels_15 0 rfl (by decide) rfl ?_
  refine x_goto C.1 (tgt := 2) dX12_feels_18 (by decide) ?_
  refine x_iload_n C.1 dX12_feels_2 0 rfl ?_
  refine x_bipush C.1 (n := 13) dX12_feels_3 ?_
  refine x_icmp_ge_f C.1 (tgt := 21) dX12_feels_5 (by decide) (by decide) (by decide) (by decide) ?_
  refine x_aload_n C.1 dX12_feels_8 1 rfl ?_
  refine x_getA C (N := 33) (i := 0) (by decide) rfl vc_X12 wx_X12 26 (by decide) wf_X12_62 (a := 18) rfl dX12_feels_9 ?_
  refine x_iload_n C.1 dX12_feels_12 0 rfl ?_
  refine x_iconst C.1 (n := 0) dX12_feels_13 ?_
  refine x_iast C (N := 33) (i := 18) (q := 3) (a := 0) (by decide) rfl (by decide) (by decide) dX12_feels_14 ?_
  rw [show (3 : Int).toNat = 3 from rfl]
  refine x_iinc C.1 (v := 4) (lv' := [(1, vI 4), (0, .ref (ad 0))]) (by decide) dX12_feels_15 0 rfl (by decide) rfl ?_
  refine x_goto C.1 (tgt := 2) dX12_feels_18 (by decide) ?_
  refine x_iload_n C.1 dX12_feels_2 0 rfl ?_
  refine x_bipush C.1 (n := 13) dX12_feels_3 ?_
  refine x_icmp_ge_f C.1 (tgt := 21) dX12_feels_5 (by decide) (by decide) (by decide) (by decide) ?_
  refine x_aload_n C.1 dX12_feels_8 1 rfl ?_
  refine x_getA C (N := 33) (i := 0) (by decide) rfl vc_X12 wx_X12 26 (by decide) wf_X12_62 (a := 18) rfl dX12_feels_9 ?_
  refine x_iload_n C.1 dX12_feels_12 0 rfl ?_
  refine x_iconst C.1 (n := 0) dX12_feels_13 ?_
  refine x_iast C (N := 33) (i := 18) (q := 4) (a := 0) (by decide) rfl (by decide) (by decide) dX12_feels_14 ?_
  rw [show (4 : Int).toNat = 4 from rfl]
  refine x_iinc C.1 (v := 5) (lv' := [(1, vI 5), (0, .ref (ad 0))]) (by decide) dX12_feels_15 0 rfl (by decide) rfl ?_
  refine x_goto C.1 (tgt := 2) dX12_feels_18 (by decide) ?_
  refine x_iload_n C.1 dX12_feels_2 0 rfl ?_
  refine x_bipush C.1 (n := 13) dX12_feels_3 ?_
  refine x_icmp_ge_f C.1 (tgt := 21) dX12_feels_5 (by decide) (by decide) (by decide) (by decide) ?_
  refine x_aload_n C.1 dX12_feels_8 1 rfl ?_
  refine x_getA C (N := 33) (i := 0) (by decide) rfl vc_X12 wx_X12 26 (by decide) wf_X12_62 (a := 18) rfl dX12_feels_9 ?_
  refine x_iload_n C.1 dX12_feels_12 0 rfl ?_
  refine x_iconst C.1 (n := 0) dX12_feels_13 ?_
  refine x_iast C (N := 33) (i := 18) (q := 5) (a := 0) (by decide) rfl (by decide) (by decide) dX12_feels_14 ?_
  rw [show (5 : Int).toNat = 5 from rfl]
  refine x_iinc C.1 (v := 6) (lv' := [(1, vI 6), (0, .ref (ad 0))]) (by decide) dX12_feels_15 0 rfl (by decide) rfl ?_
  refine x_goto C.1 (tgt := 2) dX12_feels_18 (by decide) ?_
  refine x_iload_n C.1 dX12_feels_2 0 rfl ?_
  refine x_bipush C.1 (n := 13) dX12_feels_3 ?_
  refine x_icmp_ge_f C.1 (tgt := 21) dX12_feels_5 (by decide) (by decide) (by decide) (by decide) ?_
  refine x_aload_n C.1 dX12_feels_8 1 rfl ?_
  refine x_getA C (N := 33) (i := 0) (by decide) rfl vc_X12 wx_X12 26 (by decide) wf_X12_62 (a := 18) rfl dX12_feels_9 ?_
  refine x_iload_n C.1 dX12_feels_12 0 rfl ?_
  refine x_iconst C.1 (n := 0) dX12_feels_13 ?_
  refine x_iast C (N := 33) (i := 18) (q := 6) (a := 0) (by decide) rfl (by decide) (by decide) dX12_feels_14 ?_
  rw [show (6 : Int).toNat = 6 from rfl]
  refine x_iinc C.1 (v := 7) (lv' := [(1, vI 7), (0, .ref (ad 0))]) (by decide) dX12_feels_15 0 rfl (by decide) rfl ?_
  refine x_goto C.1 (tgt := 2) dX12_feels_18 (by decide) ?_
  refine x_iload_n C.1 dX12_feels_2 0 rfl ?_
  refine x_bipush C.1 (n := 13) dX12_feels_3 ?_
  refine x_icmp_ge_f C.1 (tgt := 21) dX12_feels_5 (by decide) (by decide) (by decide) (by decide) ?_
  refine x_aload_n C.1 dX12_feels_8 1 rfl ?_
  refine x_getA C (N := 33) (i := 0) (by decide) rfl vc_X12 wx_X12 26 (by decide) wf_X12_62 (a := 18) rfl dX12_feels_9 ?_
  refine x_iload_n C.1 dX12_feels_12 0 rfl ?_
  refine x_iconst C.1 (n := 0) dX12_feels_13 ?_
  refine x_iast C (N := 33) (i := 18) (q := 7) (a := 0) (by decide) rfl (by decide) (by decide) dX12_feels_14 ?_
  rw [show (7 : Int).toNat = 7 from rfl]
  refine x_iinc C.1 (v := 8) (lv' := [(1, vI 8), (0, .ref (ad 0))]) (by decide) dX12_feels_15 0 rfl (by decide) rfl ?_
  refine x_goto C.1 (tgt := 2) dX12_feels_18 (by decide) ?_
  refine x_iload_n C.1 dX12_feels_2 0 rfl ?_
  refine x_bipush C.1 (n := 13) dX12_feels_3 ?_
  refine x_icmp_ge_f C.1 (tgt := 21) dX12_feels_5 (by decide) (by decide) (by decide) (by decide) ?_
  refine x_aload_n C.1 dX12_feels_8 1 rfl ?_
  refine x_getA C (N := 33) (i := 0) (by decide) rfl vc_X12 wx_X12 26 (by decide) wf_X12_62 (a := 18) rfl dX12_feels_9 ?_
  refine x_iload_n C.1 dX12_feels_12 0 rfl ?_
  refine x_iconst C.1 (n := 0) dX12_feels_13 ?_
  refine x_iast C (N := 33) (i := 18) (q := 8) (a := 0) (by decide) rfl (by decide) (by decide) dX12_feels_14 ?_
  rw [show (8 : Int).toNat = 8 from rfl]
  refine x_iinc C.1 (v := 9) (lv' := [(1, vI 9), (0, .ref (ad 0))]) (by decide) dX12_feels_15 0 rfl (by decide) rfl ?_
  refine x_goto C.1 (tgt := 2) dX12_feels_18 (by decide) ?_
  refine x_iload_n C.1 dX12_feels_2 0 rfl ?_
  refine x_bipush C.1 (n := 13) dX12_feels_3 ?_
  refine x_icmp_ge_f C.1 (tgt := 21) dX12_feels_5 (by decide) (by decide) (by decide) (by decide) ?_
  refine x_aload_n C.1 dX12_feels_8 1 rfl ?_
  refine x_getA C (N := 33) (i := 0) (by decide) rfl vc_X12 wx_X12 26 (by decide) wf_X12_62 (a := 18) rfl dX12_feels_9 ?_
  refine x_iload_n C.1 dX12_feels_12 0 rfl ?_
  refine x_iconst C.1 (n := 0) dX12_feels_13 ?_
  refine x_iast C (N := 33) (i := 18) (q := 9) (a := 0) (by decide) rfl (by decide) (by decide) dX12_feels_14 ?_
  rw [show (9 : Int).toNat = 9 from rfl]
  refine x_iinc C.1 (v := 10) (lv' := [(1, vI 10), (0, .ref (ad 0))]) (by decide) dX12_feels_15 0 rfl (by decide) rfl ?_
  refine x_goto C.1 (tgt := 2) dX12_feels_18 (by decide) ?_
  refine x_iload_n C.1 dX12_feels_2 0 rfl ?_
  refine x_bipush C.1 (n := 13) dX12_feels_3 ?_
  refine x_icmp_ge_f C.1 (tgt := 21) dX12_feels_5 (by decide) (by decide) (by decide) (by decide) ?_
  refine x_aload_n C.1 dX12_feels_8 1 rfl ?_
  refine x_getA C (N := 33) (i := 0) (by decide) rfl vc_X12 wx_X12 26 (by decide) wf_X12_62 (a := 18) rfl dX12_feels_9 ?_
  refine x_iload_n C.1 dX12_feels_12 0 rfl ?_
  refine x_iconst C.1 (n := 0) dX12_feels_13 ?_
  refine x_iast C (N := 33) (i := 18) (q := 10) (a := 0) (by decide) rfl (by decide) (by decide) dX12_feels_14 ?_
  rw [show (10 : Int).toNat = 10 from rfl]
  refine x_iinc C.1 (v := 11) (lv' := [(1, vI 11), (0, .ref (ad 0))]) (by decide) dX12_feels_15 0 rfl (by decide) rfl ?_
  refine x_goto C.1 (tgt := 2) dX12_feels_18 (by decide) ?_
  refine x_iload_n C.1 dX12_feels_2 0 rfl ?_
  refine x_bipush C.1 (n := 13) dX12_feels_3 ?_
  refine x_icmp_ge_f C.1 (tgt := 21) dX12_feels_5 (by decide) (by decide) (by decide) (by decide) ?_
  refine x_aload_n C.1 dX12_feels_8 1 rfl ?_
  refine x_getA C (N := 33) (i := 0) (by decide) rfl vc_X12 wx_X12 26 (by decide) wf_X12_62 (a := 18) rfl dX12_feels_9 ?_
  refine x_iload_n C.1 dX12_feels_12 0 rfl ?_
  refine x_iconst C.1 (n := 0) dX12_feels_13 ?_
  refine x_iast C (N := 33) (i := 18) (q := 11) (a := 0) (by decide) rfl (by decide) (by decide) dX12_feels_14 ?_
  rw [show (11 : Int).toNat = 11 from rfl]
  refine x_iinc C.1 (v := 12) (lv' := [(1, vI 12), (0, .ref (ad 0))]) (by decide) dX12_feels_15 0 rfl (by decide) rfl ?_
  refine x_goto C.1 (tgt := 2) dX12_feels_18 (by decide) ?_
  refine x_iload_n C.1 dX12_feels_2 0 rfl ?_
  refine x_bipush C.1 (n := 13) dX12_feels_3 ?_
  refine x_icmp_ge_f C.1 (tgt := 21) dX12_feels_5 (by decide) (by decide) (by decide) (by decide) ?_
  refine x_aload_n C.1 dX12_feels_8 1 rfl ?_
  refine x_getA C (N := 33) (i := 0) (by decide) rfl vc_X12 wx_X12 26 (by decide) wf_X12_62 (a := 18) rfl dX12_feels_9 ?_
  refine x_iload_n C.1 dX12_feels_12 0 rfl ?_
  refine x_iconst C.1 (n := 0) dX12_feels_13 ?_
  refine x_iast C (N := 33) (i := 18) (q := 12) (a := 0) (by decide) rfl (by decide) (by decide) dX12_feels_14 ?_
  rw [show (12 : Int).toNat = 12 from rfl]
  refine x_iinc C.1 (v := 13) (lv' := [(1, vI 13), (0, .ref (ad 0))]) (by decide) dX12_feels_15 0 rfl (by decide) rfl ?_
  refine x_goto C.1 (tgt := 2) dX12_feels_18 (by decide) ?_
  refine x_iload_n C.1 dX12_feels_2 0 rfl ?_
  refine x_bipush C.1 (n := 13) dX12_feels_3 ?_
  refine x_icmp_ge_t C.1 (tgt := 21) dX12_feels_5 (by decide) (by decide) (by decide) (by decide) ?_
  refine x_aload_n C.1 dX12_feels_21 1 rfl ?_
  refine x_getA C (N := 33) (i := 0) (by decide) rfl vc_X12 wx_X12 26 (by decide) wf_X12_62 (a := 18) rfl dX12_feels_22 ?_
  refine x_iconst C.1 (n := 0) dX12_feels_25 ?_
  refine x_aload_n C.1 dX12_feels_26 1 rfl ?_
  refine x_getA C (N := 33) (i := 0) (by decide) rfl vc_X12 wx_X12 0 (by decide) wf_X12_7 (a := 1) rfl dX12_feels_27 ?_
  refine x_bipush C.1 (n := 79) dX12_feels_30 ?_
  refine x_iald C (N := 33) (i := 1) (q := 79) (by decide) rfl (by decide) (by decide) dX12_feels_32 (a := (up2 (up2 (up2 (up2 (up2 (up2 (up2 (up2 (up2 (up2 (up2 (up2 (up2 V 18 0 0) 18 1 0) 18 2 0) 18 3 0) 18 4 0) 18 5 0) 18 6 0) 18 7 0) 18 8 0) 18 9 0) 18 10 0) 18 11 0) 18 12 0) 1 79) rfl ?_
  refine x_iast C (N := 33) (i := 18) (q := 0) (a := (up2 (up2 (up2 (up2 (up2 (up2 (up2 (up2 (up2 (up2 (up2 (up2 (up2 V 18 0 0) 18 1 0) 18 2 0) 18 3 0) 18 4 0) 18 5 0) 18 6 0) 18 7 0) 18 8 0) 18 9 0) 18 10 0) 18 11 0) 18 12 0) 1 79) (by decide) rfl (by decide) (by decide) dX12_feels_33 ?_
  rw [show (0 : Int).toNat = 0 from rfl]
  refine x_aload_n C.1 dX12_feels_34 1 rfl ?_
  refine x_getA C (N := 33) (i := 0) (by decide) rfl vc_X12 wx_X12 26 (by decide) wf_X12_62 (a := 18) rfl dX12_feels_35 ?_
  refine x_iconst C.1 (n := 1) dX12_feels_38 ?_
  refine x_aload_n C.1 dX12_feels_39 1 rfl ?_
  refine x_getA C (N := 33) (i := 0) (by decide) rfl vc_X12 wx_X12 0 (by decide) wf_X12_7 (a := 1) rfl dX12_feels_40 ?_
  refine x_bipush C.1 (n := 79) dX12_feels_43 ?_
  refine x_iald C (N := 33) (i := 1) (q := 79) (by decide) rfl (by decide) (by decide) dX12_feels_45 (a := (up2 (up2 (up2 (up2 (up2 (up2 (up2 (up2 (up2 (up2 (up2 (up2 (up2 (up2 V 18 0 0) 18 1 0) 18 2 0) 18 3 0) 18 4 0) 18 5 0) 18 6 0) 18 7 0) 18 8 0) 18 9 0) 18 10 0) 18 11 0) 18 12 0) 18 0 ((up2 (up2 (up2 (up2 (up2 (up2 (up2 (up2 (up2 (up2 (up2 (up2 (up2 V 18 0 0) 18 1 0) 18 2 0) 18 3 0) 18 4 0) 18 5 0) 18 6 0) 18 7 0) 18 8 0) 18 9 0) 18 10 0) 18 11 0) 18 12 0) 1 79)) 1 79) rfl ?_
  refine x_bipush C.1 (n := 7) dX12_feels_46 ?_
  refine x_irem C.1 (v := iRem ((up2 (up2 (up2 (up2 (up2 (up2 (up2 (up2 (up2 (up2 (up2 (up2 (up2 (up2 V 18 0 0) 18 1 0) 18 2 0) 18 3 0) 18 4 0) 18 5 0) 18 6 0) 18 7 0) 18 8 0) 18 9 0) 18 10 0) 18 11 0) 18 12 0) 18 0 ((up2 (up2 (up2 (up2 (up2 (up2 (up2 (up2 (up2 (up2 (up2 (up2 (up2 V 18 0 0) 18 1 0) 18 2 0) 18 3 0) 18 4 0) 18 5 0) 18 6 0) 18 7 0) 18 8 0) 18 9 0) 18 10 0) 18 11 0) 18 12 0) 1 79)) 1 79) 7) rfl dX12_feels_48 (by decide) (by decide) ?_
  refine x_iast C (N := 33) (i := 18) (q := 1) (a := iRem ((up2 (up2 (up2 (up2 (up2 (up2 (up2 (up2 (up2 (up2 (up2 (up2 (up2 (up2 V 18 0 0) 18 1 0) 18 2 0) 18 3 0) 18 4 0) 18 5 0) 18 6 0) 18 7 0) 18 8 0) 18 9 0) 18 10 0) 18 11 0) 18 12 0) 18 0 ((up2 (up2 (up2 (up2 (up2 (up2 (up2 (up2 (up2 (up2 (up2 (up2 (up2 V 18 0 0) 18 1 0) 18 2 0) 18 3 0) 18 4 0) 18 5 0) 18 6 0) 18 7 0) 18 8 0) 18 9 0) 18 10 0) 18 11 0) 18 12 0) 1 79)) 1 79) 7) (by decide) rfl (by decide) (by decide) dX12_feels_49 ?_
  rw [show (1 : Int).toNat = 1 from rfl]
  refine x_aload_n C.1 dX12_feels_50 1 rfl ?_
  refine x_getA C (N := 33) (i := 0) (by decide) rfl vc_X12 wx_X12 26 (by decide) wf_X12_62 (a := 18) rfl dX12_feels_51 ?_
  refine x_bipush C.1 (n := 10) dX12_feels_54 ?_
  refine x_aload_n C.1 dX12_feels_56 1 rfl ?_
  refine x_getA C (N := 33) (i := 0) (by decide) rfl vc_X12 wx_X12 0 (by decide) wf_X12_7 (a := 1) rfl dX12_feels_57 ?_
  refine x_bipush C.1 (n := 78) dX12_feels_60 ?_
  refine x_iald C (N := 33) (i := 1) (q := 78) (by decide) rfl (by decide) (by decide) dX12_feels_62 (a := 0) (by simp [up2, h78]) ?_
  refine x_callSi C (As := [vI 0]) (rest := [vI 10, .ref (ad 18)]) (c_bits l D cy 0 (by decide)) (l1 := []) (l2 := _) rfl (w2 := fun _ => _) (fun _ => rfl) rfl wm_yX12_bits wn_X12 wl_X12_247 wi_yX12_bits hd_yX12_bits rfl ⟨Nat.le_of_ble_eq_true rfl, Nat.le_of_ble_eq_true rfl⟩ (Nat.le_of_ble_eq_true rfl) ⟨Nat.le_of_ble_eq_true rfl, Nat.le_of_ble_eq_true rfl⟩ dX12_feels_63 (fun r1 u1 hr1 h1 => ?_)
  obtain ⟨t1, t1b⟩ := h1
  obtain rfl := t1b rfl
  refine x_iast C (N := 33) (i := 18) (q := 10) (a := 0) (by decide) rfl (by decide) (by decide) dX12_feels_66 ?_
  rw [show (10 : Int).toNat = 10 from rfl]
  exact x_vret (S := xS) (post := fun u => VR u.1 ∧ (∀ j, j ≠ 18 → u.1 j = V j) ∧ (J, Rr) = u.2) (w1 := fun u : xS => MW cy ad u.1 u.2.1 u.2.2) C hr rfl dX12_feels_67 ((up2 (up2 (up2 (up2 (up2 (up2 (up2 (up2 (up2 (up2 (up2 (up2 (up2 (up2 (up2 (up2 V 18 0 0) 18 1 0) 18 2 0) 18 3 0) 18 4 0) 18 5 0) 18 6 0) 18 7 0) 18 8 0) 18 9 0) 18 10 0) 18 11 0) 18 12 0) 18 0 ((up2 (up2 (up2 (up2 (up2 (up2 (up2 (up2 (up2 (up2 (up2 (up2 (up2 V 18 0 0) 18 1 0) 18 2 0) 18 3 0) 18 4 0) 18 5 0) 18 6 0) 18 7 0) 18 8 0) 18 9 0) 18 10 0) 18 11 0) 18 12 0) 1 79)) 18 1 (iRem ((up2 (up2 (up2 (up2 (up2 (up2 (up2 (up2 (up2 (up2 (up2 (up2 (up2 (up2 V 18 0 0) 18 1 0) 18 2 0) 18 3 0) 18 4 0) 18 5 0) 18 6 0) 18 7 0) 18 8 0) 18 9 0) 18 10 0) 18 11 0) 18 12 0) 18 0 ((up2 (up2 (up2 (up2 (up2 (up2 (up2 (up2 (up2 (up2 (up2 (up2 (up2 V 18 0 0) 18 1 0) 18 2 0) 18 3 0) 18 4 0) 18 5 0) 18 6 0) 18 7 0) 18 8 0) 18 9 0) 18 10 0) 18 11 0) 18 12 0) 1 79)) 1 79) 7)) 18 10 0), J, Rr) rfl ⟨(VR_up (VR_up (VR_up (VR_up (VR_up (VR_up (VR_up (VR_up (VR_up (VR_up (VR_up (VR_up (VR_up (VR_up (VR_up (VR_up hV (by decide)) (by decide)) (by decide)) (by decide)) (by decide)) (by decide)) (by decide)) (by decide)) (by decide)) (by decide)) (by decide)) (by decide)) (by decide)) ((VR_up (VR_up (VR_up (VR_up (VR_up (VR_up (VR_up (VR_up (VR_up (VR_up (VR_up (VR_up (VR_up hV (by decide)) (by decide)) (by decide)) (by decide)) (by decide)) (by decide)) (by decide)) (by decide)) (by decide)) (by decide)) (by decide)) (by decide)) (by decide)) _ _)) (xi_r _)) (by decide)), fun j hj => by simp [up2, hj], rfl⟩
theorem dX12_byText_0 : decode cX12_byText 0 = .ok (.bipush 14, 2) := by decide +kernel
theorem dX12_byText_2 : decode cX12_byText 2 = .ok (.iload_n 1, 1) := by decide +kernel
theorem dX12_byText_3 : decode cX12_byText 3 = .ok (.imul, 1) := by decide +kernel
theorem dX12_byText_4 : decode cX12_byText 4 = .ok (.istore 4, 2) := by decide +kernel
theorem dX12_byText_6 : decode cX12_byText 6 = .ok (.iload 4, 2) := by decide +kernel
theorem dX12_byText_8 : decode cX12_byText 8 = .ok (.bipush 14, 2) := by decide +kernel
theorem dX12_byText_10 : decode cX12_byText 10 = .ok (.iload_n 1, 1) := by decide +kernel
theorem dX12_byText_11 : decode cX12_byText 11 = .ok (.imul, 1) := by decide +kernel
theorem dX12_byText_12 : decode cX12_byText 12 = .ok (.aload_n 0, 1) := by decide +kernel
theorem dX12_byText_13 : decode cX12_byText 13 = .ok (.getfield 44, 3) := by decide +kernel
theorem dX12_byText_16 : decode cX12_byText 16 = .ok (.iload_n 1, 1) := by decide +kernel
theorem dX12_byText_17 : decode cX12_byText 17 = .ok (.iaload, 1) := by decide +kernel
theorem dX12_byText_18 : decode cX12_byText 18 = .ok (.iadd, 1) := by decide +kernel
theorem dX12_byText_19 : decode cX12_byText 19 = .ok (.if_icmp .ge 87, 3) := by decide +kernel
theorem dX12_byText_106 : decode cX12_byText 106 = .ok (.iconst 0, 1) := by decide +kernel
theorem dX12_byText_107 : decode cX12_byText 107 = .ok (.ireturn, 1) := by decide +kernel
set_option maxHeartbeats 4000000 in
set_option maxRecDepth 100000 in
theorem g_byText (l : Launch) (D : va_G) (cy : Nat → ClassId) (ad : Nat → Nat) (V J : Nat → Nat → Int) (Rr : Nat → Nat → Nat) (hV : VR V) (hJ : VJ J) (x2 x3 : Int) (hx2 : R32 x2) (hx3 : R32 x3) (hcm : V 12 0 = 0) : xMi l D (xTY cy) yX12_byText cX12_byText 6 (some .int) 0 0 0 0 [.ref (ad 0), vI 0, vI x2, vI x3] (MW cy ad V J Rr) (fun _ : Unit => MW cy ad V J Rr) (fun r _ => r = 0) := by
  refine xMi.mk (lv0 := [(0, .ref (ad 0)), (1, vI 0), (2, vI x2), (3, vI x3)]) (by decide) rfl (Nat.le_of_ble_eq_true rfl) (fun p e s m below meth c A C hr hnm hAe => ?_)
  have C : xC2 p s m _ meth c D A s.heap 6 cX12_byText RX12 (xTY cy) := C
  refine x_bipush C.1 (n := 14) dX12_byText_0 ?_
  refine x_iload_n C.1 dX12_byText_2 1 rfl ?_
  refine x_imul C.1 (v := 0) (by decide) dX12_byText_3 ?_
  refine x_istore C.1 (lv' := [(4, vI 0), (0, .ref (ad 0)), (1, vI 0), (2, vI x2), (3, vI x3)]) dX12_byText_4 (by decide) rfl ?_
  refine x_iload C.1 dX12_byText_6 0 rfl ?_
  refine x_bipush C.1 (n := 14) dX12_byText_8 ?_
  refine x_iload_n C.1 dX12_byText_10 2 rfl ?_
  refine x_imul C.1 (v := 0) (by decide) dX12_byText_11 ?_
  refine x_aload_n C.1 dX12_byText_12 1 rfl ?_
  refine x_getA C (N := 33) (i := 0) (by decide) rfl vc_X12 wx_X12 20 (by decide) wf_X12_44 (a := 12) rfl dX12_byText_13 ?_
  refine x_iload_n C.1 dX12_byText_16 2 rfl ?_
  refine x_iald C (N := 33) (i := 12) (q := 0) (by decide) rfl (by decide) (by decide) dX12_byText_17 (a := 0) hcm ?_
  refine x_iadd C.1 (v := 0) (by decide) dX12_byText_18 ?_
  refine x_icmp_ge_t C.1 (tgt := 106) dX12_byText_19 (by decide) (by decide) (by decide) (by decide) ?_
  refine x_iconst C.1 (n := 0) dX12_byText_106 ?_
  exact x_iret (S := Unit) (post := fun r _ => r = 0) (w1 := fun _ : Unit => MW cy ad V J Rr) (a := 0) C hr rfl dX12_byText_107 (by decide) () rfl (by omega)
theorem hd_yX12_byText : yX12_byText.cls ≠ "java/lang/invoke/MethodHandle" ∧ yX12_byText.cls ≠ "java/lang/invoke/VarHandle" ∧ (parseMethodDescriptor yX12_byText.desc).map (fun d => d.parameters.length) = some 3 := by decide +kernel
theorem hd_yX12_feels : yX12_feels.cls ≠ "java/lang/invoke/MethodHandle" ∧ yX12_feels.cls ≠ "java/lang/invoke/VarHandle" ∧ (parseMethodDescriptor yX12_feels.desc).map (fun d => d.parameters.length) = some 0 := by decide +kernel
theorem dX12_laysAlone_0 : decode cX12_laysAlone 0 = .ok (.iconst 0, 1) := by decide +kernel
theorem dX12_laysAlone_1 : decode cX12_laysAlone 1 = .ok (.istore_n 2, 1) := by decide +kernel
theorem dX12_laysAlone_2 : decode cX12_laysAlone 2 = .ok (.iload_n 2, 1) := by decide +kernel
theorem dX12_laysAlone_3 : decode cX12_laysAlone 3 = .ok (.iload_n 1, 1) := by decide +kernel
theorem dX12_laysAlone_4 : decode cX12_laysAlone 4 = .ok (.if_icmp .ge 52, 3) := by decide +kernel
theorem dX12_laysAlone_7 : decode cX12_laysAlone 7 = .ok (.aload_n 0, 1) := by decide +kernel
theorem dX12_laysAlone_8 : decode cX12_laysAlone 8 = .ok (.invokevirtual 250, 3) := by decide +kernel
theorem dX12_laysAlone_11 : decode cX12_laysAlone 11 = .ok (.aload_n 0, 1) := by decide +kernel
theorem dX12_laysAlone_12 : decode cX12_laysAlone 12 = .ok (.getfield 62, 3) := by decide +kernel
theorem dX12_laysAlone_15 : decode cX12_laysAlone 15 = .ok (.bipush 8, 2) := by decide +kernel
theorem dX12_laysAlone_17 : decode cX12_laysAlone 17 = .ok (.iload_n 2, 1) := by decide +kernel
theorem dX12_laysAlone_18 : decode cX12_laysAlone 18 = .ok (.iastore, 1) := by decide +kernel
theorem dX12_laysAlone_19 : decode cX12_laysAlone 19 = .ok (.aload_n 0, 1) := by decide +kernel
theorem dX12_laysAlone_20 : decode cX12_laysAlone 20 = .ok (.getfield 102, 3) := by decide +kernel
theorem dX12_laysAlone_23 : decode cX12_laysAlone 23 = .ok (.iload_n 2, 1) := by decide +kernel
theorem dX12_laysAlone_24 : decode cX12_laysAlone 24 = .ok (.aload_n 0, 1) := by decide +kernel
theorem dX12_laysAlone_25 : decode cX12_laysAlone 25 = .ok (.iconst 0, 1) := by decide +kernel
theorem dX12_laysAlone_26 : decode cX12_laysAlone 26 = .ok (.bipush 99, 2) := by decide +kernel
theorem dX12_laysAlone_28 : decode cX12_laysAlone 28 = .ok (.bipush 99, 2) := by decide +kernel
theorem dX12_laysAlone_30 : decode cX12_laysAlone 30 = .ok (.invokevirtual 256, 3) := by decide +kernel
theorem dX12_laysAlone_33 : decode cX12_laysAlone 33 = .ok (.iastore, 1) := by decide +kernel
theorem dX12_laysAlone_34 : decode cX12_laysAlone 34 = .ok (.aload_n 0, 1) := by decide +kernel
theorem dX12_laysAlone_35 : decode cX12_laysAlone 35 = .ok (.getfield 105, 3) := by decide +kernel
theorem dX12_laysAlone_38 : decode cX12_laysAlone 38 = .ok (.iload_n 2, 1) := by decide +kernel
theorem dX12_laysAlone_39 : decode cX12_laysAlone 39 = .ok (.aload_n 0, 1) := by decide +kernel
theorem dX12_laysAlone_40 : decode cX12_laysAlone 40 = .ok (.iconst 0, 1) := by decide +kernel
theorem dX12_laysAlone_41 : decode cX12_laysAlone 41 = .ok (.bipush 98, 2) := by decide +kernel
theorem dX12_laysAlone_43 : decode cX12_laysAlone 43 = .ok (.sipush 999, 3) := by decide +kernel
theorem dX12_laysAlone_46 : decode cX12_laysAlone 46 = .ok (.invokevirtual 256, 3) := by decide +kernel
theorem dX12_laysAlone_49 : decode cX12_laysAlone 49 = .ok (.iastore, 1) := by decide +kernel
theorem dX12_laysAlone_50 : decode cX12_laysAlone 50 = .ok (.iinc 2 1, 3) := by decide +kernel
theorem dX12_laysAlone_53 : decode cX12_laysAlone 53 = .ok (.goto (-51), 3) := by decide +kernel
theorem dX12_laysAlone_56 : decode cX12_laysAlone 56 = .ok (.return_, 1) := by decide +kernel
set_option maxHeartbeats 4000000 in
set_option maxRecDepth 100000 in
theorem g_laysAlone (l : Launch) (D : va_G) (cy : Nat → ClassId) (ad : Nat → Nat) (V J : Nat → Nat → Int) (Rr : Nat → Nat → Nat) (hV : VR V) (hJ : VJ J) (x1 : Int) (hx1 : R32 x1) (hr1 : x1 ≤ 6) (h78 : V 1 78 = 0) (hcm : V 12 0 = 0) (hco : ∀ k, V 31 k = 0) (hwo : ∀ k, V 32 k = 0) : xMv l D (xTY cy) yX12_laysAlone cX12_laysAlone 3 none 2 43 0 0 [.ref (ad 0), vI x1] (MW cy ad V J Rr) (fun u : xS => MW cy ad u.1 u.2.1 u.2.2) (fun u => VR u.1 ∧ (∀ k, u.1 31 k = 0) ∧ (∀ k, u.1 32 k = 0) ∧ (J, Rr) = u.2) := by
  refine xMv.mk (lv0 := [(0, .ref (ad 0)), (1, vI x1)]) (by decide) rfl (Nat.le_of_ble_eq_true rfl) (fun p e s m below meth c A C hr hnm hAe => ?_)
  have C : xC2 p s m _ meth c D A s.heap 3 cX12_laysAlone RX12 (xTY cy) := C
  refine x_iconst C.1 (n := 0) dX12_laysAlone_0 ?_
  refine x_istore_n C.1 (lv' := [(2, vI 0), (0, .ref (ad 0)), (1, vI x1)]) dX12_laysAlone_1 (by decide) rfl ?_
  refine x_loop (I := fun x : Nat × (Nat → Nat → Int) => match x with | (zi, zV) => zi ≤ 6 ∧ VR zV ∧ zV 1 78 = 0 ∧ zV 12 0 = 0 ∧ (∀ k, zV 31 k = 0) ∧ (∀ k, zV 32 k = 0)) (μ := fun x : Nat × (Nat → Nat → Int) => match x with | (zi, zV) => 6 - zi) (wsf := fun x : Nat × (Nat → Nat → Int) => match x with | (zi, zV) => MW cy ad zV J Rr) (lvf := fun x : Nat × (Nat → Nat → Int) => match x with | (zi, zV) => [(2, vI (zi : Int)), (0, .ref (ad 0)), (1, vI x1)]) (fun x hI ih1 => ?_) (0, V) ⟨by decide, hV, h78, hcm, hco, hwo⟩ rfl rfl
  obtain ⟨zi, zV⟩ := x
  obtain ⟨hz0, hz1, hz2, hz3, hz4, hz5⟩ := hI
  try dsimp only
  refine x_iload_n C.1 dX12_laysAlone_2 0 rfl ?_
  refine x_iload_n C.1 dX12_laysAlone_3 2 rfl ?_
  refine x_icmp_ge C.1 (tgt := 56) dX12_laysAlone_4 (by decide) (by omega) hx1 (fun c4_2 => ?_) (fun c4_2 => ?_)
  · exact x_vret (S := xS) (post := fun u => VR u.1 ∧ (∀ k, u.1 31 k = 0) ∧ (∀ k, u.1 32 k = 0) ∧ (J, Rr) = u.2) (w1 := fun u : xS => MW cy ad u.1 u.2.1 u.2.2) C hr rfl dX12_laysAlone_56 (zV, J, Rr) rfl ⟨hz1, hz4, hz5, rfl⟩
  · refine x_aload_n C.1 dX12_laysAlone_7 1 rfl ?_
    refine x_callVv C (As := []) (rest := []) 0 (xw_at (N := 33) (i := 0) (by decide) rfl) vc_X12 (g_feels l D cy ad zV J Rr hz1 hJ hz2) (l1 := []) (l2 := []) (List.append_nil _).symm (w2 := fun u : xS => MW cy ad u.1 u.2.1 u.2.2) (fun _ => List.append_nil _) rfl wm_yX12_feels wn_X12 wl_X12_250 wi_yX12_feels we_yX12_feels hd_yX12_feels rfl ⟨Nat.le_of_ble_eq_true rfl, Nat.le_of_ble_eq_true rfl⟩ (Nat.le_of_ble_eq_true rfl) ⟨Nat.le_of_ble_eq_true rfl, Nat.le_of_ble_eq_true rfl⟩ dX12_laysAlone_8 (fun u3 h3 => ?_)
    obtain ⟨zV3, zJ3, zR3⟩ := u3
    obtain ⟨hzb3, hfl, hzd3⟩ := h3
    obtain ⟨rfl, rfl⟩ := Prod.mk.inj hzd3
    try dsimp only at hzb3 hfl ⊢
    have hq1 : zV3 1 78 = 0 := by rw [hfl _ (by decide)]; exact hz2
    have hq2 : zV3 12 0 = 0 := by rw [hfl _ (by decide)]; exact hz3
    have hq3 : ∀ k, zV3 31 k = 0 := fun k => by rw [hfl _ (by decide)]; exact hz4 k
    have hq4 : ∀ k, zV3 32 k = 0 := fun k => by rw [hfl _ (by decide)]; exact hz5 k
    refine x_aload_n C.1 dX12_laysAlone_11 1 rfl ?_
    refine x_getA C (N := 33) (i := 0) (by decide) rfl vc_X12 wx_X12 26 (by decide) wf_X12_62 (a := 18) rfl dX12_laysAlone_12 ?_
    refine x_bipush C.1 (n := 8) dX12_laysAlone_15 ?_
    refine x_iload_n C.1 dX12_laysAlone_17 0 rfl ?_
    refine x_iast C (N := 33) (i := 18) (q := 8) (a := (zi : Int)) (by decide) rfl (by decide) (by decide) dX12_laysAlone_18 ?_
    rw [show (8 : Int).toNat = 8 from rfl]
    refine x_aload_n C.1 dX12_laysAlone_19 1 rfl ?_
    refine x_getA C (N := 33) (i := 0) (by decide) rfl vc_X12 wx_X12 51 (by decide) wf_X12_102 (a := 31) rfl dX12_laysAlone_20 ?_
    refine x_iload_n C.1 dX12_laysAlone_23 0 rfl ?_
    refine x_aload_n C.1 dX12_laysAlone_24 1 rfl ?_
    refine x_iconst C.1 (n := 0) dX12_laysAlone_25 ?_
    refine x_bipush C.1 (n := 99) dX12_laysAlone_26 ?_
    refine x_bipush C.1 (n := 99) dX12_laysAlone_28 ?_
    refine x_callVi C (As := [vI 0, vI 99, vI 99]) (rest := [vI (zi : Int), .ref (ad 31)]) 0 (xw_at (N := 33) (i := 0) (by decide) rfl) vc_X12 (g_byText l D cy ad (up2 zV3 18 8 (zi : Int)) J Rr (VR_up hzb3 (by omega)) hJ 99 99 (by decide) (by decide) (by simp [up2, up1, hq2])) (l1 := []) (l2 := []) (List.append_nil _).symm (w2 := fun _ => MW cy ad (up2 zV3 18 8 (zi : Int)) J Rr) (fun _ => List.append_nil _) rfl wm_yX12_byText wn_X12 wl_X12_256 wi_yX12_byText we_yX12_byText hd_yX12_byText rfl ⟨Nat.le_of_ble_eq_true rfl, Nat.le_of_ble_eq_true rfl⟩ (Nat.le_of_ble_eq_true rfl) ⟨Nat.le_of_ble_eq_true rfl, Nat.le_of_ble_eq_true rfl⟩ dX12_laysAlone_30 (fun r4 u4 hr4 h4 => ?_)
    obtain rfl := h4
    refine x_iast C (N := 33) (i := 31) (q := (zi : Int)) (a := 0) (by decide) rfl (by omega) (by decide) dX12_laysAlone_33 ?_
    refine x_aload_n C.1 dX12_laysAlone_34 1 rfl ?_
    refine x_getA C (N := 33) (i := 0) (by decide) rfl vc_X12 wx_X12 52 (by decide) wf_X12_105 (a := 32) rfl dX12_laysAlone_35 ?_
    refine x_iload_n C.1 dX12_laysAlone_38 0 rfl ?_
    refine x_aload_n C.1 dX12_laysAlone_39 1 rfl ?_
    refine x_iconst C.1 (n := 0) dX12_laysAlone_40 ?_
    refine x_bipush C.1 (n := 98) dX12_laysAlone_41 ?_
    refine x_sipush C.1 (n := 999) dX12_laysAlone_43 ?_
    refine x_callVi C (As := [vI 0, vI 98, vI 999]) (rest := [vI (zi : Int), .ref (ad 32)]) 0 (xw_at (N := 33) (i := 0) (by decide) rfl) vc_X12 (g_byText l D cy ad (up2 (up2 zV3 18 8 (zi : Int)) 31 ((zi : Int).toNat) 0) J Rr (VR_up (VR_up hzb3 (by omega)) (by decide)) hJ 98 999 (by decide) (by decide) (by simp [up2, up1, hq2])) (l1 := []) (l2 := []) (List.append_nil _).symm (w2 := fun _ => MW cy ad (up2 (up2 zV3 18 8 (zi : Int)) 31 ((zi : Int).toNat) 0) J Rr) (fun _ => List.append_nil _) rfl wm_yX12_byText wn_X12 wl_X12_256 wi_yX12_byText we_yX12_byText hd_yX12_byText rfl ⟨Nat.le_of_ble_eq_true rfl, Nat.le_of_ble_eq_true rfl⟩ (Nat.le_of_ble_eq_true rfl) ⟨Nat.le_of_ble_eq_true rfl, Nat.le_of_ble_eq_true rfl⟩ dX12_laysAlone_46 (fun r5 u5 hr5 h5 => ?_)
    obtain rfl := h5
    refine x_iast C (N := 33) (i := 32) (q := (zi : Int)) (a := 0) (by decide) rfl (by omega) (by decide) dX12_laysAlone_49 ?_
    refine x_iinc C.1 (v := (zi : Int) + 1) (lv' := [(2, vI ((zi : Int) + 1)), (0, .ref (ad 0)), (1, vI x1)]) rfl dX12_laysAlone_50 0 rfl (by decide) rfl ?_
    refine x_goto C.1 (tgt := 2) dX12_laysAlone_53 (by decide) ?_
    rw [← Int.natCast_add_one]
    exact ih1 (zi + 1, _) ⟨by (try dsimp only); omega, (VR_up (VR_up (VR_up hzb3 (by omega)) (by decide)) (by decide)), by simp [up2, up1, hq1], by simp [up2, up1, hq2], by simp [up2, up1, hq3], by simp [up2, up1, hq4]⟩ (by (try dsimp only); omega)
theorem dX12_gainOf_0 : decode cX12_gainOf 0 = .ok (.iload_n 1, 1) := by decide +kernel
theorem dX12_gainOf_1 : decode cX12_gainOf 1 = .ok (.iload_n 2, 1) := by decide +kernel
theorem dX12_gainOf_2 : decode cX12_gainOf 2 = .ok (.invokestatic 118, 3) := by decide +kernel
theorem dX12_gainOf_5 : decode cX12_gainOf 5 = .ok (.ifCond .eq 17, 3) := by decide +kernel
theorem dX12_gainOf_8 : decode cX12_gainOf 8 = .ok (.aload_n 0, 1) := by decide +kernel
theorem dX12_gainOf_9 : decode cX12_gainOf 9 = .ok (.getfield 105, 3) := by decide +kernel
theorem dX12_gainOf_12 : decode cX12_gainOf 12 = .ok (.iload_n 2, 1) := by decide +kernel
theorem dX12_gainOf_13 : decode cX12_gainOf 13 = .ok (.iaload, 1) := by decide +kernel
theorem dX12_gainOf_14 : decode cX12_gainOf 14 = .ok (.aload_n 0, 1) := by decide +kernel
theorem dX12_gainOf_15 : decode cX12_gainOf 15 = .ok (.getfield 102, 3) := by decide +kernel
theorem dX12_gainOf_18 : decode cX12_gainOf 18 = .ok (.iload_n 2, 1) := by decide +kernel
theorem dX12_gainOf_19 : decode cX12_gainOf 19 = .ok (.iaload, 1) := by decide +kernel
theorem dX12_gainOf_20 : decode cX12_gainOf 20 = .ok (.isub, 1) := by decide +kernel
theorem dX12_gainOf_21 : decode cX12_gainOf 21 = .ok (.ireturn, 1) := by decide +kernel
theorem dX12_gainOf_22 : decode cX12_gainOf 22 = .ok (.iload_n 1, 1) := by decide +kernel
theorem dX12_gainOf_23 : decode cX12_gainOf 23 = .ok (.ifCond .ne 7, 3) := by decide +kernel
theorem dX12_gainOf_26 : decode cX12_gainOf 26 = .ok (.iconst 0, 1) := by decide +kernel
theorem dX12_gainOf_27 : decode cX12_gainOf 27 = .ok (.goto 9, 3) := by decide +kernel
theorem dX12_gainOf_30 : decode cX12_gainOf 30 = .ok (.aload_n 0, 1) := by decide +kernel
theorem dX12_gainOf_31 : decode cX12_gainOf 31 = .ok (.getfield 105, 3) := by decide +kernel
theorem dX12_gainOf_34 : decode cX12_gainOf 34 = .ok (.iload_n 2, 1) := by decide +kernel
theorem dX12_gainOf_35 : decode cX12_gainOf 35 = .ok (.iaload, 1) := by decide +kernel
theorem dX12_gainOf_36 : decode cX12_gainOf 36 = .ok (.ireturn, 1) := by decide +kernel
set_option maxHeartbeats 4000000 in
set_option maxRecDepth 100000 in
theorem g_gainOf (l : Launch) (D : va_G) (cy : Nat → ClassId) (ad : Nat → Nat) (V J : Nat → Nat → Int) (Rr : Nat → Nat → Nat) (hV : VR V) (hJ : VJ J) (x1 x2 : Int) (hx1 : R32 x1) (hx2 : R32 x2) (hco : ∀ k, V 31 k = 0) (hwo : ∀ k, V 32 k = 0) (hr2 : 0 ≤ x2 ∧ x2 < 6) : xMi l D (xTY cy) yX12_gainOf cX12_gainOf 3 (some .int) 1 21 0 0 [.ref (ad 0), vI x1, vI x2] (MW cy ad V J Rr) (fun _ : Unit => MW cy ad V J Rr) (fun r _ => r = 0) := by
  refine xMi.mk (lv0 := [(0, .ref (ad 0)), (1, vI x1), (2, vI x2)]) (by decide) rfl (Nat.le_of_ble_eq_true rfl) (fun p e s m below meth c A C hr hnm hAe => ?_)
  have C : xC2 p s m _ meth c D A s.heap 3 cX12_gainOf RX12 (xTY cy) := C
  refine x_iload_n C.1 dX12_gainOf_0 1 rfl ?_
  refine x_iload_n C.1 dX12_gainOf_1 2 rfl ?_
  refine x_callSi C (As := [vI x1, vI x2]) (rest := []) (c_has l D cy x1 x2 hx1 hx2) (l1 := []) (l2 := _) rfl (w2 := fun _ => _) (fun _ => rfl) rfl wm_yX12_has wn_X12 wl_X12_118 wi_yX12_has hd_yX12_has rfl ⟨Nat.le_of_ble_eq_true rfl, Nat.le_of_ble_eq_true rfl⟩ (Nat.le_of_ble_eq_true rfl) ⟨Nat.le_of_ble_eq_true rfl, Nat.le_of_ble_eq_true rfl⟩ dX12_gainOf_2 (fun r1 u1 hr1 h1 => ?_)
  rcases h1 with ⟨rfl, t1⟩ | ⟨rfl, t1⟩
  · refine x_if_eq_f C.1 (tgt := 22) dX12_gainOf_5 (by decide) (by decide) (by decide) ?_
    refine x_aload_n C.1 dX12_gainOf_8 0 rfl ?_
    refine x_getA C (N := 33) (i := 0) (by decide) rfl vc_X12 wx_X12 52 (by decide) wf_X12_105 (a := 32) rfl dX12_gainOf_9 ?_
    refine x_iload_n C.1 dX12_gainOf_12 2 rfl ?_
    refine x_iald C (N := 33) (i := 32) (q := x2) (by decide) rfl (by omega) (by decide) dX12_gainOf_13 (a := 0) (hwo _) ?_
    refine x_aload_n C.1 dX12_gainOf_14 0 rfl ?_
    refine x_getA C (N := 33) (i := 0) (by decide) rfl vc_X12 wx_X12 51 (by decide) wf_X12_102 (a := 31) rfl dX12_gainOf_15 ?_
    refine x_iload_n C.1 dX12_gainOf_18 2 rfl ?_
    refine x_iald C (N := 33) (i := 31) (q := x2) (by decide) rfl (by omega) (by decide) dX12_gainOf_19 (a := 0) (hco _) ?_
    refine x_isub C.1 (v := 0) (by decide) dX12_gainOf_20 ?_
    exact x_iret (S := Unit) (post := fun r _ => r = 0) (w1 := fun _ : Unit => MW cy ad V J Rr) (a := 0) C hr rfl dX12_gainOf_21 (by decide) () rfl (by omega)
  · refine x_if_eq_t C.1 (tgt := 22) dX12_gainOf_5 (by decide) (by decide) (by decide) ?_
    refine x_iload_n C.1 dX12_gainOf_22 1 rfl ?_
    refine x_if_ne C.1 (tgt := 30) dX12_gainOf_23 (by decide) hx1 (fun c23_2 => ?_) (fun c23_2 => ?_)
    · refine x_aload_n C.1 dX12_gainOf_30 0 rfl ?_
      refine x_getA C (N := 33) (i := 0) (by decide) rfl vc_X12 wx_X12 52 (by decide) wf_X12_105 (a := 32) rfl dX12_gainOf_31 ?_
      refine x_iload_n C.1 dX12_gainOf_34 2 rfl ?_
      refine x_iald C (N := 33) (i := 32) (q := x2) (by decide) rfl (by omega) (by decide) dX12_gainOf_35 (a := 0) (hwo _) ?_
      exact x_iret (S := Unit) (post := fun r _ => r = 0) (w1 := fun _ : Unit => MW cy ad V J Rr) (a := 0) C hr rfl dX12_gainOf_36 (by decide) () rfl (by omega)
    · refine x_iconst C.1 (n := 0) dX12_gainOf_26 ?_
      refine x_goto C.1 (tgt := 36) dX12_gainOf_27 (by decide) ?_
      exact x_iret (S := Unit) (post := fun r _ => r = 0) (w1 := fun _ : Unit => MW cy ad V J Rr) (a := 0) C hr rfl dX12_gainOf_36 (by decide) () rfl (by omega)
theorem hd_yX12_tens : yX12_tens.cls ≠ "java/lang/invoke/MethodHandle" ∧ yX12_tens.cls ≠ "java/lang/invoke/VarHandle" ∧ (parseMethodDescriptor yX12_tens.desc).map (fun d => d.parameters.length) = some 1 := by decide +kernel
theorem dX12_waterBy_0 : decode cX12_waterBy 0 = .ok (.lconst 1, 1) := by decide +kernel
theorem dX12_waterBy_1 : decode cX12_waterBy 1 = .ok (.lstore_n 3, 1) := by decide +kernel
theorem dX12_waterBy_2 : decode cX12_waterBy 2 = .ok (.iconst 1, 1) := by decide +kernel
theorem dX12_waterBy_3 : decode cX12_waterBy 3 = .ok (.istore 5, 2) := by decide +kernel
theorem dX12_waterBy_5 : decode cX12_waterBy 5 = .ok (.iload 5, 2) := by decide +kernel
theorem dX12_waterBy_7 : decode cX12_waterBy 7 = .ok (.iload_n 1, 1) := by decide +kernel
theorem dX12_waterBy_8 : decode cX12_waterBy 8 = .ok (.if_icmp .ge 17, 3) := by decide +kernel
theorem dX12_waterBy_11 : decode cX12_waterBy 11 = .ok (.lload_n 3, 1) := by decide +kernel
theorem dX12_waterBy_12 : decode cX12_waterBy 12 = .ok (.bipush 10, 2) := by decide +kernel
theorem dX12_waterBy_14 : decode cX12_waterBy 14 = .ok (.iload_n 2, 1) := by decide +kernel
theorem dX12_waterBy_15 : decode cX12_waterBy 15 = .ok (.isub, 1) := by decide +kernel
theorem dX12_waterBy_16 : decode cX12_waterBy 16 = .ok (.i2l, 1) := by decide +kernel
theorem dX12_waterBy_17 : decode cX12_waterBy 17 = .ok (.lmul, 1) := by decide +kernel
theorem dX12_waterBy_18 : decode cX12_waterBy 18 = .ok (.lstore_n 3, 1) := by decide +kernel
theorem dX12_waterBy_19 : decode cX12_waterBy 19 = .ok (.iinc 5 1, 3) := by decide +kernel
theorem dX12_waterBy_22 : decode cX12_waterBy 22 = .ok (.goto (-17), 3) := by decide +kernel
theorem dX12_waterBy_25 : decode cX12_waterBy 25 = .ok (.iconst 0, 1) := by decide +kernel
theorem dX12_waterBy_26 : decode cX12_waterBy 26 = .ok (.istore 5, 2) := by decide +kernel
theorem dX12_waterBy_28 : decode cX12_waterBy 28 = .ok (.iload 5, 2) := by decide +kernel
theorem dX12_waterBy_30 : decode cX12_waterBy 30 = .ok (.iload_n 1, 1) := by decide +kernel
theorem dX12_waterBy_31 : decode cX12_waterBy 31 = .ok (.if_icmp .ge 40, 3) := by decide +kernel
theorem dX12_waterBy_34 : decode cX12_waterBy 34 = .ok (.aload_n 0, 1) := by decide +kernel
theorem dX12_waterBy_35 : decode cX12_waterBy 35 = .ok (.getfield 102, 3) := by decide +kernel
theorem dX12_waterBy_38 : decode cX12_waterBy 38 = .ok (.iload 5, 2) := by decide +kernel
theorem dX12_waterBy_40 : decode cX12_waterBy 40 = .ok (.iaload, 1) := by decide +kernel
theorem dX12_waterBy_41 : decode cX12_waterBy 41 = .ok (.i2l, 1) := by decide +kernel
theorem dX12_waterBy_42 : decode cX12_waterBy 42 = .ok (.iload_n 1, 1) := by decide +kernel
theorem dX12_waterBy_43 : decode cX12_waterBy 43 = .ok (.iconst 1, 1) := by decide +kernel
theorem dX12_waterBy_44 : decode cX12_waterBy 44 = .ok (.isub, 1) := by decide +kernel
theorem dX12_waterBy_45 : decode cX12_waterBy 45 = .ok (.invokestatic 328, 3) := by decide +kernel
theorem dX12_waterBy_48 : decode cX12_waterBy 48 = .ok (.lmul, 1) := by decide +kernel
theorem dX12_waterBy_49 : decode cX12_waterBy 49 = .ok (.aload_n 0, 1) := by decide +kernel
theorem dX12_waterBy_50 : decode cX12_waterBy 50 = .ok (.getfield 105, 3) := by decide +kernel
theorem dX12_waterBy_53 : decode cX12_waterBy 53 = .ok (.iload 5, 2) := by decide +kernel
theorem dX12_waterBy_55 : decode cX12_waterBy 55 = .ok (.iaload, 1) := by decide +kernel
theorem dX12_waterBy_56 : decode cX12_waterBy 56 = .ok (.i2l, 1) := by decide +kernel
theorem dX12_waterBy_57 : decode cX12_waterBy 57 = .ok (.lload_n 3, 1) := by decide +kernel
theorem dX12_waterBy_58 : decode cX12_waterBy 58 = .ok (.lmul, 1) := by decide +kernel
theorem dX12_waterBy_59 : decode cX12_waterBy 59 = .ok (.lcmp, 1) := by decide +kernel
theorem dX12_waterBy_60 : decode cX12_waterBy 60 = .ok (.ifCond .le 5, 3) := by decide +kernel
theorem dX12_waterBy_65 : decode cX12_waterBy 65 = .ok (.iinc 5 1, 3) := by decide +kernel
theorem dX12_waterBy_68 : decode cX12_waterBy 68 = .ok (.goto (-40), 3) := by decide +kernel
theorem dX12_waterBy_71 : decode cX12_waterBy 71 = .ok (.iconst 1, 1) := by decide +kernel
theorem dX12_waterBy_72 : decode cX12_waterBy 72 = .ok (.ireturn, 1) := by decide +kernel
set_option maxHeartbeats 4000000 in
set_option maxRecDepth 100000 in
theorem g_waterBy (l : Launch) (D : va_G) (cy : Nat → ClassId) (ad : Nat → Nat) (V J : Nat → Nat → Int) (Rr : Nat → Nat → Nat) (hV : VR V) (hJ : VJ J) (x1 : Int) (hx1 : R32 x1) (hco : ∀ k, V 31 k = 0) (hwo : ∀ k, V 32 k = 0) (hr1 : 2 ≤ x1 ∧ x1 ≤ 6) : xMi l D (xTY cy) yX12_waterBy cX12_waterBy 6 (some .boolean) 1 23 0 0 [.ref (ad 0), vI x1, vI 10] (MW cy ad V J Rr) (fun _ : Unit => MW cy ad V J Rr) (fun r _ => r = 1) := by
  refine xMi.mk (lv0 := [(0, .ref (ad 0)), (1, vI x1), (2, vI 10)]) (by decide) rfl (Nat.le_of_ble_eq_true rfl) (fun p e s m below meth c A C hr hnm hAe => ?_)
  have C : xC2 p s m _ meth c D A s.heap 6 cX12_waterBy RX12 (xTY cy) := C
  refine x_lconst1 C.1 dX12_waterBy_0 ?_
  refine x_lstore_n C.1 (lv' := [(3, vJ 1), (0, .ref (ad 0)), (1, vI x1), (2, vI 10)]) dX12_waterBy_1 (by decide) rfl ?_
  refine x_iconst C.1 (n := 1) dX12_waterBy_2 ?_
  refine x_istore C.1 (lv' := [(5, vI 1), (3, vJ 1), (0, .ref (ad 0)), (1, vI x1), (2, vI 10)]) dX12_waterBy_3 (by decide) rfl ?_
  refine x_loop (I := fun x : Nat × Int => match x with | (zi, zn) => 1 ≤ zi ∧ zi ≤ x1 ∧ (zi = 1 ∧ zn = 1 ∨ 2 ≤ zi ∧ zn = 0)) (μ := fun x : Nat × Int => match x with | (zi, zn) => (x1 - zi).toNat) (wsf := fun x : Nat × Int => match x with | (zi, zn) => MW cy ad V J Rr) (lvf := fun x : Nat × Int => match x with | (zi, zn) => [(5, vI (zi : Int)), (3, vJ zn), (0, .ref (ad 0)), (1, vI x1), (2, vI 10)]) (fun x hI ih1 => ?_) (1, 1) ⟨by decide, by omega, Or.inl ⟨rfl, rfl⟩⟩ rfl rfl
  obtain ⟨zi, zn⟩ := x
  obtain ⟨hz1, hz2, hz3⟩ := hI
  try dsimp only
  refine x_iload C.1 dX12_waterBy_5 0 rfl ?_
  refine x_iload_n C.1 dX12_waterBy_7 3 rfl ?_
  refine x_icmp_ge C.1 (tgt := 25) dX12_waterBy_8 (by decide) (by omega) hx1 (fun c8_2 => ?_) (fun c8_2 => ?_)
  · refine x_iconst C.1 (n := 0) dX12_waterBy_25 ?_
    refine x_istore C.1 (lv' := [(5, vI 0), (3, vJ zn), (0, .ref (ad 0)), (1, vI x1), (2, vI 10)]) dX12_waterBy_26 (by decide) rfl ?_
    refine x_loop (I := fun zp : Nat => zp ≤ 6) (μ := fun zp : Nat => 6 - zp) (wsf := fun zp : Nat => MW cy ad V J Rr) (lvf := fun zp : Nat => [(5, vI (zp : Int)), (3, vJ zn), (0, .ref (ad 0)), (1, vI x1), (2, vI 10)]) (fun zp hI ih3 => ?_) (0) (Nat.zero_le _) rfl rfl
    obtain hzp := hI
    try dsimp only
    refine x_iload C.1 dX12_waterBy_28 0 rfl ?_
    refine x_iload_n C.1 dX12_waterBy_30 3 rfl ?_
    refine x_icmp_ge C.1 (tgt := 71) dX12_waterBy_31 (by decide) (by omega) hx1 (fun c31_4 => ?_) (fun c31_4 => ?_)
    · refine x_iconst C.1 (n := 1) dX12_waterBy_71 ?_
      exact x_zret (S := Unit) (post := fun r _ => r = 1) (w1 := fun _ : Unit => MW cy ad V J Rr) (a := 1) C hr rfl dX12_waterBy_72 (by decide) () rfl (by omega)
    · refine x_aload_n C.1 dX12_waterBy_34 2 rfl ?_
      refine x_getA C (N := 33) (i := 0) (by decide) rfl vc_X12 wx_X12 51 (by decide) wf_X12_102 (a := 31) rfl dX12_waterBy_35 ?_
      refine x_iload C.1 dX12_waterBy_38 0 rfl ?_
      refine x_iald C (N := 33) (i := 31) (q := (zp : Int)) (by decide) rfl (by omega) (by decide) dX12_waterBy_40 (a := 0) (hco _) ?_
      refine x_i2l C.1 dX12_waterBy_41 (by decide) ?_
      refine x_iload_n C.1 dX12_waterBy_42 3 rfl ?_
      refine x_iconst C.1 (n := 1) dX12_waterBy_43 ?_
      refine x_isub C.1 (v := x1 - 1) rfl dX12_waterBy_44 ?_
      refine x_callSl C (As := [vI (x1 - 1)]) (rest := [vJ 0]) (c_tens l D cy (x1 - 1) (by omega) (by omega)) (l1 := []) (l2 := _) rfl (w2 := fun _ => _) (fun _ => rfl) rfl wm_yX12_tens wn_X12 wl_X12_328 wi_yX12_tens hd_yX12_tens rfl ⟨Nat.le_of_ble_eq_true rfl, Nat.le_of_ble_eq_true rfl⟩ (Nat.le_of_ble_eq_true rfl) ⟨Nat.le_of_ble_eq_true rfl, Nat.le_of_ble_eq_true rfl⟩ dX12_waterBy_45 (fun r5 u5 hr5 h5 => ?_)
      obtain rfl := h5
      refine x_lmul C.1 (v := 0) (Int.zero_mul _) dX12_waterBy_48 ?_
      refine x_aload_n C.1 dX12_waterBy_49 2 rfl ?_
      refine x_getA C (N := 33) (i := 0) (by decide) rfl vc_X12 wx_X12 52 (by decide) wf_X12_105 (a := 32) rfl dX12_waterBy_50 ?_
      refine x_iload C.1 dX12_waterBy_53 0 rfl ?_
      refine x_iald C (N := 33) (i := 32) (q := (zp : Int)) (by decide) rfl (by omega) (by decide) dX12_waterBy_55 (a := 0) (hwo _) ?_
      refine x_i2l C.1 dX12_waterBy_56 (by decide) ?_
      refine x_lload_n C.1 dX12_waterBy_57 1 rfl ?_
      refine x_lmul C.1 (v := 0) (Int.zero_mul _) dX12_waterBy_58 ?_
      refine x_lcmp C.1 (v := 0) (by decide) dX12_waterBy_59 (by decide) (by decide) ?_
      refine x_if_le_t C.1 (tgt := 65) dX12_waterBy_60 (by decide) (by decide) (by decide) ?_
      refine x_iinc C.1 (v := (zp : Int) + 1) (lv' := [(5, vI ((zp : Int) + 1)), (3, vJ zn), (0, .ref (ad 0)), (1, vI x1), (2, vI 10)]) rfl dX12_waterBy_65 0 rfl (by decide) rfl ?_
      refine x_goto C.1 (tgt := 28) dX12_waterBy_68 (by decide) ?_
      rw [← Int.natCast_add_one]
      exact ih3 (zp + 1) (by omega) (by omega)
  · refine x_lload_n C.1 dX12_waterBy_11 1 rfl ?_
    refine x_bipush C.1 (n := 10) dX12_waterBy_12 ?_
    refine x_iload_n C.1 dX12_waterBy_14 4 rfl ?_
    refine x_isub C.1 (v := 0) (by decide) dX12_waterBy_15 ?_
    refine x_i2l C.1 dX12_waterBy_16 (by decide) ?_
    refine x_lmul C.1 (v := 0) (Int.mul_zero _) dX12_waterBy_17 ?_
    refine x_lstore_n C.1 (lv' := [(3, vJ 0), (5, vI (zi : Int)), (0, .ref (ad 0)), (1, vI x1), (2, vI 10)]) dX12_waterBy_18 (by decide) rfl ?_
    refine x_iinc C.1 (v := (zi : Int) + 1) (lv' := [(5, vI ((zi : Int) + 1)), (3, vJ 0), (0, .ref (ad 0)), (1, vI x1), (2, vI 10)]) rfl dX12_waterBy_19 1 rfl (by decide) rfl ?_
    refine x_goto C.1 (tgt := 5) dX12_waterBy_22 (by decide) ?_
    rw [← Int.natCast_add_one]
    exact ih1 (zi + 1, 0) ⟨by omega, by omega, by omega⟩ (by (try dsimp only); omega)
theorem hd_yX12_gainOf : yX12_gainOf.cls ≠ "java/lang/invoke/MethodHandle" ∧ yX12_gainOf.cls ≠ "java/lang/invoke/VarHandle" ∧ (parseMethodDescriptor yX12_gainOf.desc).map (fun d => d.parameters.length) = some 2 := by decide +kernel
theorem hd_yX12_laysAlone : yX12_laysAlone.cls ≠ "java/lang/invoke/MethodHandle" ∧ yX12_laysAlone.cls ≠ "java/lang/invoke/VarHandle" ∧ (parseMethodDescriptor yX12_laysAlone.desc).map (fun d => d.parameters.length) = some 1 := by decide +kernel
theorem hd_yX12_waterBy : yX12_waterBy.cls ≠ "java/lang/invoke/MethodHandle" ∧ yX12_waterBy.cls ≠ "java/lang/invoke/VarHandle" ∧ (parseMethodDescriptor yX12_waterBy.desc).map (fun d => d.parameters.length) = some 2 := by decide +kernel
theorem dX12_alone_0 : decode cX12_alone 0 = .ok (.iload_n 1, 1) := by decide +kernel
theorem dX12_alone_1 : decode cX12_alone 1 = .ok (.iconst 2, 1) := by decide +kernel
theorem dX12_alone_2 : decode cX12_alone 2 = .ok (.bipush 6, 2) := by decide +kernel
theorem dX12_alone_4 : decode cX12_alone 4 = .ok (.invokestatic 126, 3) := by decide +kernel
theorem dX12_alone_7 : decode cX12_alone 7 = .ok (.ifCond .eq 12, 3) := by decide +kernel
theorem dX12_alone_10 : decode cX12_alone 10 = .ok (.iload_n 2, 1) := by decide +kernel
theorem dX12_alone_11 : decode cX12_alone 11 = .ok (.iconst 0, 1) := by decide +kernel
theorem dX12_alone_12 : decode cX12_alone 12 = .ok (.iconst 2, 1) := by decide +kernel
theorem dX12_alone_13 : decode cX12_alone 13 = .ok (.invokestatic 126, 3) := by decide +kernel
theorem dX12_alone_16 : decode cX12_alone 16 = .ok (.ifCond .ne 5, 3) := by decide +kernel
theorem dX12_alone_19 : decode cX12_alone 19 = .ok (.iconst (-1), 1) := by decide +kernel
theorem dX12_alone_20 : decode cX12_alone 20 = .ok (.ireturn, 1) := by decide +kernel
theorem dX12_alone_21 : decode cX12_alone 21 = .ok (.aload_n 0, 1) := by decide +kernel
theorem dX12_alone_22 : decode cX12_alone 22 = .ok (.iload_n 1, 1) := by decide +kernel
theorem dX12_alone_23 : decode cX12_alone 23 = .ok (.invokevirtual 407, 3) := by decide +kernel
theorem dX12_alone_26 : decode cX12_alone 26 = .ok (.iload_n 2, 1) := by decide +kernel
theorem dX12_alone_27 : decode cX12_alone 27 = .ok (.iconst 2, 1) := by decide +kernel
theorem dX12_alone_28 : decode cX12_alone 28 = .ok (.if_icmp .ne 37, 3) := by decide +kernel
theorem dX12_alone_31 : decode cX12_alone 31 = .ok (.bipush 10, 2) := by decide +kernel
theorem dX12_alone_33 : decode cX12_alone 33 = .ok (.istore_n 3, 1) := by decide +kernel
theorem dX12_alone_34 : decode cX12_alone 34 = .ok (.iload_n 3, 1) := by decide +kernel
theorem dX12_alone_35 : decode cX12_alone 35 = .ok (.ifCond .lt 19, 3) := by decide +kernel
theorem dX12_alone_38 : decode cX12_alone 38 = .ok (.aload_n 0, 1) := by decide +kernel
theorem dX12_alone_39 : decode cX12_alone 39 = .ok (.iload_n 1, 1) := by decide +kernel
theorem dX12_alone_40 : decode cX12_alone 40 = .ok (.iload_n 3, 1) := by decide +kernel
theorem dX12_alone_41 : decode cX12_alone 41 = .ok (.invokevirtual 410, 3) := by decide +kernel
theorem dX12_alone_44 : decode cX12_alone 44 = .ok (.ifCond .ne 10, 3) := by decide +kernel
theorem dX12_alone_54 : decode cX12_alone 54 = .ok (.iload_n 3, 1) := by decide +kernel
theorem dX12_alone_55 : decode cX12_alone 55 = .ok (.ifCond .ge 8, 3) := by decide +kernel
theorem dX12_alone_63 : decode cX12_alone 63 = .ok (.iload_n 3, 1) := by decide +kernel
theorem dX12_alone_64 : decode cX12_alone 64 = .ok (.ireturn, 1) := by decide +kernel
theorem dX12_alone_65 : decode cX12_alone 65 = .ok (.iconst 0, 1) := by decide +kernel
theorem dX12_alone_66 : decode cX12_alone 66 = .ok (.istore_n 3, 1) := by decide +kernel
theorem dX12_alone_67 : decode cX12_alone 67 = .ok (.bipush (-2), 2) := by decide +kernel
theorem dX12_alone_69 : decode cX12_alone 69 = .ok (.istore 4, 2) := by decide +kernel
theorem dX12_alone_71 : decode cX12_alone 71 = .ok (.iconst 0, 1) := by decide +kernel
theorem dX12_alone_72 : decode cX12_alone 72 = .ok (.istore 5, 2) := by decide +kernel
theorem dX12_alone_74 : decode cX12_alone 74 = .ok (.iload 5, 2) := by decide +kernel
theorem dX12_alone_76 : decode cX12_alone 76 = .ok (.iconst 1, 1) := by decide +kernel
theorem dX12_alone_77 : decode cX12_alone 77 = .ok (.iload_n 1, 1) := by decide +kernel
theorem dX12_alone_78 : decode cX12_alone 78 = .ok (.ishl, 1) := by decide +kernel
theorem dX12_alone_79 : decode cX12_alone 79 = .ok (.if_icmp .ge 88, 3) := by decide +kernel
theorem dX12_alone_82 : decode cX12_alone 82 = .ok (.iconst 1, 1) := by decide +kernel
theorem dX12_alone_83 : decode cX12_alone 83 = .ok (.istore 6, 2) := by decide +kernel
theorem dX12_alone_85 : decode cX12_alone 85 = .ok (.iconst 0, 1) := by decide +kernel
theorem dX12_alone_86 : decode cX12_alone 86 = .ok (.istore 7, 2) := by decide +kernel
theorem dX12_alone_88 : decode cX12_alone 88 = .ok (.iload 7, 2) := by decide +kernel
theorem dX12_alone_90 : decode cX12_alone 90 = .ok (.iload_n 1, 1) := by decide +kernel
theorem dX12_alone_91 : decode cX12_alone 91 = .ok (.if_icmp .ge 45, 3) := by decide +kernel
theorem dX12_alone_94 : decode cX12_alone 94 = .ok (.iload 6, 2) := by decide +kernel
theorem dX12_alone_96 : decode cX12_alone 96 = .ok (.ifCond .eq 40, 3) := by decide +kernel
theorem dX12_alone_99 : decode cX12_alone 99 = .ok (.aload_n 0, 1) := by decide +kernel
theorem dX12_alone_100 : decode cX12_alone 100 = .ok (.iload 5, 2) := by decide +kernel
theorem dX12_alone_102 : decode cX12_alone 102 = .ok (.iconst 1, 1) := by decide +kernel
theorem dX12_alone_103 : decode cX12_alone 103 = .ok (.iload 7, 2) := by decide +kernel
theorem dX12_alone_105 : decode cX12_alone 105 = .ok (.ishl, 1) := by decide +kernel
theorem dX12_alone_106 : decode cX12_alone 106 = .ok (.ixor, 1) := by decide +kernel
theorem dX12_alone_107 : decode cX12_alone 107 = .ok (.iload 7, 2) := by decide +kernel
theorem dX12_alone_109 : decode cX12_alone 109 = .ok (.invokevirtual 413, 3) := by decide +kernel
theorem dX12_alone_112 : decode cX12_alone 112 = .ok (.aload_n 0, 1) := by decide +kernel
theorem dX12_alone_113 : decode cX12_alone 113 = .ok (.iload 5, 2) := by decide +kernel
theorem dX12_alone_115 : decode cX12_alone 115 = .ok (.iload 7, 2) := by decide +kernel
theorem dX12_alone_117 : decode cX12_alone 117 = .ok (.invokevirtual 413, 3) := by decide +kernel
theorem dX12_alone_120 : decode cX12_alone 120 = .ok (.if_icmp .gt 7, 3) := by decide +kernel
theorem dX12_alone_123 : decode cX12_alone 123 = .ok (.iconst 1, 1) := by decide +kernel
theorem dX12_alone_124 : decode cX12_alone 124 = .ok (.goto 4, 3) := by decide +kernel
theorem dX12_alone_128 : decode cX12_alone 128 = .ok (.istore 6, 2) := by decide +kernel
theorem dX12_alone_130 : decode cX12_alone 130 = .ok (.iinc 7 1, 3) := by decide +kernel
theorem dX12_alone_133 : decode cX12_alone 133 = .ok (.goto (-45), 3) := by decide +kernel
theorem dX12_alone_136 : decode cX12_alone 136 = .ok (.iload 6, 2) := by decide +kernel
theorem dX12_alone_138 : decode cX12_alone 138 = .ok (.ifCond .ne 6, 3) := by decide +kernel
theorem dX12_alone_144 : decode cX12_alone 144 = .ok (.iload_n 3, 1) := by decide +kernel
theorem dX12_alone_145 : decode cX12_alone 145 = .ok (.ifCond .ne 8, 3) := by decide +kernel
theorem dX12_alone_148 : decode cX12_alone 148 = .ok (.iload 5, 2) := by decide +kernel
theorem dX12_alone_150 : decode cX12_alone 150 = .ok (.goto 5, 3) := by decide +kernel
theorem dX12_alone_153 : decode cX12_alone 153 = .ok (.iload 4, 2) := by decide +kernel
theorem dX12_alone_155 : decode cX12_alone 155 = .ok (.istore 4, 2) := by decide +kernel
theorem dX12_alone_157 : decode cX12_alone 157 = .ok (.iload_n 3, 1) := by decide +kernel
theorem dX12_alone_158 : decode cX12_alone 158 = .ok (.iconst 1, 1) := by decide +kernel
theorem dX12_alone_159 : decode cX12_alone 159 = .ok (.iadd, 1) := by decide +kernel
theorem dX12_alone_160 : decode cX12_alone 160 = .ok (.istore_n 3, 1) := by decide +kernel
theorem dX12_alone_161 : decode cX12_alone 161 = .ok (.iinc 5 1, 3) := by decide +kernel
theorem dX12_alone_164 : decode cX12_alone 164 = .ok (.goto (-90), 3) := by decide +kernel
theorem dX12_alone_167 : decode cX12_alone 167 = .ok (.iload_n 2, 1) := by decide +kernel
theorem dX12_alone_168 : decode cX12_alone 168 = .ok (.ifCond .ne 7, 3) := by decide +kernel
theorem dX12_alone_171 : decode cX12_alone 171 = .ok (.iload_n 3, 1) := by decide +kernel
theorem dX12_alone_172 : decode cX12_alone 172 = .ok (.goto 5, 3) := by decide +kernel
theorem dX12_alone_175 : decode cX12_alone 175 = .ok (.iload 4, 2) := by decide +kernel
theorem dX12_alone_177 : decode cX12_alone 177 = .ok (.ireturn, 1) := by decide +kernel
set_option maxHeartbeats 4000000 in
set_option maxRecDepth 100000 in
theorem g_alone (l : Launch) (D : va_G) (cy : Nat → ClassId) (ad : Nat → Nat) (V J : Nat → Nat → Int) (Rr : Nat → Nat → Nat) (hV : VR V) (hJ : VJ J) (x1 x2 : Int) (hx1 : R32 x1) (hx2 : R32 x2) (h76 : V 1 76 = 0) (h78 : V 1 78 = 0) (htp : V 0 4 = 0) (hcm : ∀ k, V 12 k = 0) (hco0 : ∀ k, V 31 k = 0) (hwo0 : ∀ k, V 32 k = 0) : xMi l D (xTY cy) yX12_alone cX12_alone 8 (some .int) 3 65 0 0 [.ref (ad 0), vI x1, vI x2] (MW cy ad V J Rr) (fun u : xS => MW cy ad u.1 u.2.1 u.2.2) (fun r _ => (2 ≤ x1 ∧ x1 ≤ 6 ∧ (x2 = 2 ∧ r = 10 ∨ x2 = 1 ∧ r = 0 ∨ x2 = 0 ∧ r = iShl 1 x1)) ∨ (¬ (2 ≤ x1 ∧ x1 ≤ 6 ∧ 0 ≤ x2 ∧ x2 ≤ 2) ∧ r = -1)) := by
  refine xMi.mk (lv0 := [(0, .ref (ad 0)), (1, vI x1), (2, vI x2)]) (by decide) rfl (Nat.le_of_ble_eq_true rfl) (fun p e s m below meth c A C hr hnm hAe => ?_)
  have C : xC2 p s m _ meth c D A s.heap 8 cX12_alone RX12 (xTY cy) := C
  refine x_iload_n C.1 dX12_alone_0 1 rfl ?_
  refine x_iconst C.1 (n := 2) dX12_alone_1 ?_
  refine x_bipush C.1 (n := 6) dX12_alone_2 ?_
  refine x_callSi C (As := [vI x1, vI 2, vI 6]) (rest := []) (c_in l D cy x1 2 6 hx1 (by decide) (by decide)) (l1 := []) (l2 := _) rfl (w2 := fun _ => _) (fun _ => rfl) rfl wm_yX12_in wn_X12 wl_X12_126 wi_yX12_in hd_yX12_in rfl ⟨Nat.le_of_ble_eq_true rfl, Nat.le_of_ble_eq_true rfl⟩ (Nat.le_of_ble_eq_true rfl) ⟨Nat.le_of_ble_eq_true rfl, Nat.le_of_ble_eq_true rfl⟩ dX12_alone_4 (fun r1 u1 hr1 h1 => ?_)
  rcases h1 with ⟨rfl, t1, t1b⟩ | ⟨rfl, t1⟩
  · refine x_if_eq_f C.1 (tgt := 19) dX12_alone_7 (by decide) (by decide) (by decide) ?_
    refine x_iload_n C.1 dX12_alone_10 2 rfl ?_
    refine x_iconst C.1 (n := 0) dX12_alone_11 ?_
    refine x_iconst C.1 (n := 2) dX12_alone_12 ?_
    refine x_callSi C (As := [vI x2, vI 0, vI 2]) (rest := []) (c_in l D cy x2 0 2 hx2 (by decide) (by decide)) (l1 := []) (l2 := _) rfl (w2 := fun _ => _) (fun _ => rfl) rfl wm_yX12_in wn_X12 wl_X12_126 wi_yX12_in hd_yX12_in rfl ⟨Nat.le_of_ble_eq_true rfl, Nat.le_of_ble_eq_true rfl⟩ (Nat.le_of_ble_eq_true rfl) ⟨Nat.le_of_ble_eq_true rfl, Nat.le_of_ble_eq_true rfl⟩ dX12_alone_13 (fun r2 u2 hr2 h2 => ?_)
    rcases h2 with ⟨rfl, t2, t2b⟩ | ⟨rfl, t2⟩
    · refine x_if_ne_t C.1 (tgt := 21) dX12_alone_16 (by decide) (by decide) (by decide) ?_
      refine x_aload_n C.1 dX12_alone_21 0 rfl ?_
      refine x_iload_n C.1 dX12_alone_22 1 rfl ?_
      refine x_callVv C (As := [vI x1]) (rest := []) 0 (xw_at (N := 33) (i := 0) (by decide) rfl) vc_X12 (g_laysAlone l D cy ad V J Rr hV hJ x1 hx1 (by omega) h78 (hcm _) hco0 hwo0) (l1 := []) (l2 := []) (List.append_nil _).symm (w2 := fun u : xS => MW cy ad u.1 u.2.1 u.2.2) (fun _ => List.append_nil _) rfl wm_yX12_laysAlone wn_X12 wl_X12_407 wi_yX12_laysAlone we_yX12_laysAlone hd_yX12_laysAlone rfl ⟨Nat.le_of_ble_eq_true rfl, Nat.le_of_ble_eq_true rfl⟩ (Nat.le_of_ble_eq_true rfl) ⟨Nat.le_of_ble_eq_true rfl, Nat.le_of_ble_eq_true rfl⟩ dX12_alone_23 (fun u3 h3 => ?_)
      obtain ⟨zV3, zJ3, zR3⟩ := u3
      obtain ⟨hzb3, hco, hwo, hzd3⟩ := h3
      obtain ⟨rfl, rfl⟩ := Prod.mk.inj hzd3
      try dsimp only at hzb3 hco hwo ⊢
      refine x_iload_n C.1 dX12_alone_26 2 rfl ?_
      refine x_iconst C.1 (n := 2) dX12_alone_27 ?_
      refine x_icmp_ne C.1 (tgt := 65) dX12_alone_28 (by decide) hx2 (by decide) (fun c28_4 => ?_) (fun c28_4 => ?_)
      · have hP := shl_26 (x := x1) (by omega)
        refine x_iconst C.1 (n := 0) dX12_alone_65 ?_
        refine x_istore_n C.1 (lv' := [(3, vI 0), (0, .ref (ad 0)), (1, vI x1), (2, vI x2)]) dX12_alone_66 (by decide) rfl ?_
        refine x_bipush C.1 (n := -2) dX12_alone_67 ?_
        refine x_istore C.1 (lv' := [(4, vI (-2)), (3, vI 0), (0, .ref (ad 0)), (1, vI x1), (2, vI x2)]) dX12_alone_69 (by decide) rfl ?_
        refine x_iconst C.1 (n := 0) dX12_alone_71 ?_
        refine x_istore C.1 (lv' := [(5, vI 0), (4, vI (-2)), (3, vI 0), (0, .ref (ad 0)), (1, vI x1), (2, vI x2)]) dX12_alone_72 (by decide) rfl ?_
        refine x_loop (I := fun x : Nat × Int => match x with | (zr, zl) => zr ≤ iShl 1 x1 ∧ (zr = 0 ∧ zl = -2 ∨ 1 ≤ zr ∧ zl = 0)) (μ := fun x : Nat × Int => match x with | (zr, zl) => (iShl 1 x1 - zr).toNat) (wsf := fun x : Nat × Int => match x with | (zr, zl) => MW cy ad zV3 J Rr) (lvf := fun x : Nat × Int => match x with | (zr, zl) => [(5, vI (zr : Int)), (4, vI zl), (3, vI (zr : Int)), (0, .ref (ad 0)), (1, vI x1), (2, vI x2)]) (fun x hI ih5 => ?_) (0, -2) ⟨by omega, Or.inl ⟨rfl, rfl⟩⟩ rfl rfl
        obtain ⟨zr, zl⟩ := x
        obtain ⟨hz1, hz2⟩ := hI
        try dsimp only
        refine x_iload C.1 dX12_alone_74 0 rfl ?_
        refine x_iconst C.1 (n := 1) dX12_alone_76 ?_
        refine x_iload_n C.1 dX12_alone_77 4 rfl ?_
        refine x_ishl C.1 (v := iShl 1 x1) rfl dX12_alone_78 ?_
        refine x_icmp_ge C.1 (tgt := 167) dX12_alone_79 (by decide) (by omega) (xi_r _) (fun c79_6 => ?_) (fun c79_6 => ?_)
        · refine x_iload_n C.1 dX12_alone_167 5 rfl ?_
          refine x_if_ne C.1 (tgt := 175) dX12_alone_168 (by decide) hx2 (fun c168_7 => ?_) (fun c168_7 => ?_)
          · refine x_iload C.1 dX12_alone_175 1 rfl ?_
            exact x_iret (S := xS) (post := fun r _ => (2 ≤ x1 ∧ x1 ≤ 6 ∧ (x2 = 2 ∧ r = 10 ∨ x2 = 1 ∧ r = 0 ∨ x2 = 0 ∧ r = iShl 1 x1)) ∨ (¬ (2 ≤ x1 ∧ x1 ≤ 6 ∧ 0 ≤ x2 ∧ x2 ≤ 2) ∧ r = -1)) (w1 := fun u : xS => MW cy ad u.1 u.2.1 u.2.2) (a := zl) C hr rfl dX12_alone_177 (by omega) (zV3, J, Rr) rfl (by omega)
          · refine x_iload_n C.1 dX12_alone_171 2 rfl ?_
            refine x_goto C.1 (tgt := 177) dX12_alone_172 (by decide) ?_
            exact x_iret (S := xS) (post := fun r _ => (2 ≤ x1 ∧ x1 ≤ 6 ∧ (x2 = 2 ∧ r = 10 ∨ x2 = 1 ∧ r = 0 ∨ x2 = 0 ∧ r = iShl 1 x1)) ∨ (¬ (2 ≤ x1 ∧ x1 ≤ 6 ∧ 0 ≤ x2 ∧ x2 ≤ 2) ∧ r = -1)) (w1 := fun u : xS => MW cy ad u.1 u.2.1 u.2.2) (a := (zr : Int)) C hr rfl dX12_alone_177 (by omega) (zV3, J, Rr) rfl (by omega)
        · refine x_iconst C.1 (n := 1) dX12_alone_82 ?_
          refine x_istore C.1 (lv' := [(6, vI 1), (5, vI (zr : Int)), (4, vI zl), (3, vI (zr : Int)), (0, .ref (ad 0)), (1, vI x1), (2, vI x2)]) dX12_alone_83 (by decide) rfl ?_
          refine x_iconst C.1 (n := 0) dX12_alone_85 ?_
          refine x_istore C.1 (lv' := [(7, vI 0), (6, vI 1), (5, vI (zr : Int)), (4, vI zl), (3, vI (zr : Int)), (0, .ref (ad 0)), (1, vI x1), (2, vI x2)]) dX12_alone_86 (by decide) rfl ?_
          refine x_loop (I := fun zp : Nat => zp ≤ 6) (μ := fun zp : Nat => 6 - zp) (wsf := fun zp : Nat => MW cy ad zV3 J Rr) (lvf := fun zp : Nat => [(7, vI (zp : Int)), (6, vI 1), (5, vI (zr : Int)), (4, vI zl), (3, vI (zr : Int)), (0, .ref (ad 0)), (1, vI x1), (2, vI x2)]) (fun zp hI ih8 => ?_) (0) (Nat.zero_le _) rfl rfl
          obtain hzp := hI
          try dsimp only
          refine x_iload C.1 dX12_alone_88 0 rfl ?_
          refine x_iload_n C.1 dX12_alone_90 6 rfl ?_
          refine x_icmp_ge C.1 (tgt := 136) dX12_alone_91 (by decide) (by omega) hx1 (fun c91_9 => ?_) (fun c91_9 => ?_)
          · refine x_iload C.1 dX12_alone_136 1 rfl ?_
            refine x_if_ne_t C.1 (tgt := 144) dX12_alone_138 (by decide) (by decide) (by decide) ?_
            refine x_iload_n C.1 dX12_alone_144 4 rfl ?_
            refine x_if_ne C.1 (tgt := 153) dX12_alone_145 (by decide) (by omega) (fun c145_10 => ?_) (fun c145_10 => ?_)
            · refine x_iload C.1 dX12_alone_153 3 rfl ?_
              refine x_istore C.1 (lv' := [(4, vI zl), (7, vI (zp : Int)), (6, vI 1), (5, vI (zr : Int)), (3, vI (zr : Int)), (0, .ref (ad 0)), (1, vI x1), (2, vI x2)]) dX12_alone_155 (by decide) rfl ?_
              refine x_iload_n C.1 dX12_alone_157 4 rfl ?_
              refine x_iconst C.1 (n := 1) dX12_alone_158 ?_
              refine x_iadd C.1 (v := (zr : Int) + 1) rfl dX12_alone_159 ?_
              refine x_istore_n C.1 (lv' := [(3, vI ((zr : Int) + 1)), (4, vI zl), (7, vI (zp : Int)), (6, vI 1), (5, vI (zr : Int)), (0, .ref (ad 0)), (1, vI x1), (2, vI x2)]) dX12_alone_160 (by decide) rfl ?_
              refine x_iinc C.1 (v := (zr : Int) + 1) (lv' := [(5, vI ((zr : Int) + 1)), (3, vI ((zr : Int) + 1)), (4, vI zl), (7, vI (zp : Int)), (6, vI 1), (0, .ref (ad 0)), (1, vI x1), (2, vI x2)]) rfl dX12_alone_161 4 rfl (by decide) rfl ?_
              refine x_goto C.1 (tgt := 74) dX12_alone_164 (by decide) ?_
              refine x_lv [(5, vI ((zr : Int) + 1)), (4, vI zl), (3, vI ((zr : Int) + 1)), (0, .ref (ad 0)), (1, vI x1), (2, vI x2)] [0, 2, 1, 5, 6, 7] rfl ?_
              rw [← Int.natCast_add_one]
              exact ih5 (zr + 1, zl) ⟨by omega, by omega⟩ (by (try dsimp only); omega)
            · refine x_iload C.1 dX12_alone_148 2 rfl ?_
              refine x_goto C.1 (tgt := 155) dX12_alone_150 (by decide) ?_
              refine x_istore C.1 (lv' := [(4, vI (zr : Int)), (7, vI (zp : Int)), (6, vI 1), (5, vI (zr : Int)), (3, vI (zr : Int)), (0, .ref (ad 0)), (1, vI x1), (2, vI x2)]) dX12_alone_155 (by decide) rfl ?_
              refine x_iload_n C.1 dX12_alone_157 4 rfl ?_
              refine x_iconst C.1 (n := 1) dX12_alone_158 ?_
              refine x_iadd C.1 (v := (zr : Int) + 1) rfl dX12_alone_159 ?_
              refine x_istore_n C.1 (lv' := [(3, vI ((zr : Int) + 1)), (4, vI (zr : Int)), (7, vI (zp : Int)), (6, vI 1), (5, vI (zr : Int)), (0, .ref (ad 0)), (1, vI x1), (2, vI x2)]) dX12_alone_160 (by decide) rfl ?_
              refine x_iinc C.1 (v := (zr : Int) + 1) (lv' := [(5, vI ((zr : Int) + 1)), (3, vI ((zr : Int) + 1)), (4, vI (zr : Int)), (7, vI (zp : Int)), (6, vI 1), (0, .ref (ad 0)), (1, vI x1), (2, vI x2)]) rfl dX12_alone_161 4 rfl (by decide) rfl ?_
              refine x_goto C.1 (tgt := 74) dX12_alone_164 (by decide) ?_
              refine x_lv [(5, vI ((zr : Int) + 1)), (4, vI (zr : Int)), (3, vI ((zr : Int) + 1)), (0, .ref (ad 0)), (1, vI x1), (2, vI x2)] [0, 2, 1, 5, 6, 7] rfl ?_
              rw [← Int.natCast_add_one]
              exact ih5 (zr + 1, (zr : Int)) ⟨by omega, by omega⟩ (by (try dsimp only); omega)
          · refine x_iload C.1 dX12_alone_94 1 rfl ?_
            refine x_if_eq_f C.1 (tgt := 136) dX12_alone_96 (by decide) (by decide) (by decide) ?_
            refine x_aload_n C.1 dX12_alone_99 5 rfl ?_
            refine x_iload C.1 dX12_alone_100 2 rfl ?_
            refine x_iconst C.1 (n := 1) dX12_alone_102 ?_
            refine x_iload C.1 dX12_alone_103 0 rfl ?_
            refine x_ishl C.1 (v := iShl 1 (zp : Int)) rfl dX12_alone_105 ?_
            refine x_ixor C.1 (v := iXor (zr : Int) (iShl 1 (zp : Int))) rfl dX12_alone_106 ?_
            refine x_iload C.1 dX12_alone_107 0 rfl ?_
            refine x_callVi C (As := [vI (iXor (zr : Int) (iShl 1 (zp : Int))), vI (zp : Int)]) (rest := []) 0 (xw_at (N := 33) (i := 0) (by decide) rfl) vc_X12 (g_gainOf l D cy ad zV3 J Rr hzb3 hJ (iXor (zr : Int) (iShl 1 (zp : Int))) (zp : Int) (xi_r _) (by omega) hco hwo (by omega)) (l1 := []) (l2 := []) (List.append_nil _).symm (w2 := fun _ => MW cy ad zV3 J Rr) (fun _ => List.append_nil _) rfl wm_yX12_gainOf wn_X12 wl_X12_413 wi_yX12_gainOf we_yX12_gainOf hd_yX12_gainOf rfl ⟨Nat.le_of_ble_eq_true rfl, Nat.le_of_ble_eq_true rfl⟩ (Nat.le_of_ble_eq_true rfl) ⟨Nat.le_of_ble_eq_true rfl, Nat.le_of_ble_eq_true rfl⟩ dX12_alone_109 (fun r11 u11 hr11 h11 => ?_)
            obtain rfl := h11
            refine x_aload_n C.1 dX12_alone_112 5 rfl ?_
            refine x_iload C.1 dX12_alone_113 2 rfl ?_
            refine x_iload C.1 dX12_alone_115 0 rfl ?_
            refine x_callVi C (As := [vI (zr : Int), vI (zp : Int)]) (rest := [vI 0]) 0 (xw_at (N := 33) (i := 0) (by decide) rfl) vc_X12 (g_gainOf l D cy ad zV3 J Rr hzb3 hJ (zr : Int) (zp : Int) (by omega) (by omega) hco hwo (by omega)) (l1 := []) (l2 := []) (List.append_nil _).symm (w2 := fun _ => MW cy ad zV3 J Rr) (fun _ => List.append_nil _) rfl wm_yX12_gainOf wn_X12 wl_X12_413 wi_yX12_gainOf we_yX12_gainOf hd_yX12_gainOf rfl ⟨Nat.le_of_ble_eq_true rfl, Nat.le_of_ble_eq_true rfl⟩ (Nat.le_of_ble_eq_true rfl) ⟨Nat.le_of_ble_eq_true rfl, Nat.le_of_ble_eq_true rfl⟩ dX12_alone_117 (fun r12 u12 hr12 h12 => ?_)
            obtain rfl := h12
            refine x_icmp_gt_f C.1 (tgt := 127) dX12_alone_120 (by decide) (by decide) (by decide) (by decide) ?_
            refine x_iconst C.1 (n := 1) dX12_alone_123 ?_
            refine x_goto C.1 (tgt := 128) dX12_alone_124 (by decide) ?_
            refine x_istore C.1 (lv' := [(6, vI 1), (7, vI (zp : Int)), (5, vI (zr : Int)), (4, vI zl), (3, vI (zr : Int)), (0, .ref (ad 0)), (1, vI x1), (2, vI x2)]) dX12_alone_128 (by decide) rfl ?_
            refine x_iinc C.1 (v := (zp : Int) + 1) (lv' := [(7, vI ((zp : Int) + 1)), (6, vI 1), (5, vI (zr : Int)), (4, vI zl), (3, vI (zr : Int)), (0, .ref (ad 0)), (1, vI x1), (2, vI x2)]) rfl dX12_alone_130 1 rfl (by decide) rfl ?_
            refine x_goto C.1 (tgt := 88) dX12_alone_133 (by decide) ?_
            rw [← Int.natCast_add_one]
            exact ih8 (zp + 1) (by omega) (by omega)
      · refine x_bipush C.1 (n := 10) dX12_alone_31 ?_
        refine x_istore_n C.1 (lv' := [(3, vI 10), (0, .ref (ad 0)), (1, vI x1), (2, vI x2)]) dX12_alone_33 (by decide) rfl ?_
        refine x_iload_n C.1 dX12_alone_34 0 rfl ?_
        refine x_if_lt_f C.1 (tgt := 54) dX12_alone_35 (by decide) (by decide) (by decide) ?_
        refine x_aload_n C.1 dX12_alone_38 1 rfl ?_
        refine x_iload_n C.1 dX12_alone_39 2 rfl ?_
        refine x_iload_n C.1 dX12_alone_40 0 rfl ?_
        refine x_callVi C (As := [vI x1, vI 10]) (rest := []) 0 (xw_at (N := 33) (i := 0) (by decide) rfl) vc_X12 (g_waterBy l D cy ad zV3 J Rr hzb3 hJ x1 hx1 hco hwo (by omega)) (l1 := []) (l2 := []) (List.append_nil _).symm (w2 := fun _ => MW cy ad zV3 J Rr) (fun _ => List.append_nil _) rfl wm_yX12_waterBy wn_X12 wl_X12_410 wi_yX12_waterBy we_yX12_waterBy hd_yX12_waterBy rfl ⟨Nat.le_of_ble_eq_true rfl, Nat.le_of_ble_eq_true rfl⟩ (Nat.le_of_ble_eq_true rfl) ⟨Nat.le_of_ble_eq_true rfl, Nat.le_of_ble_eq_true rfl⟩ dX12_alone_41 (fun r13 u13 hr13 h13 => ?_)
        obtain rfl := h13
        refine x_if_ne_t C.1 (tgt := 54) dX12_alone_44 (by decide) (by decide) (by decide) ?_
        refine x_iload_n C.1 dX12_alone_54 0 rfl ?_
        refine x_if_ge_t C.1 (tgt := 63) dX12_alone_55 (by decide) (by decide) (by decide) ?_
        refine x_iload_n C.1 dX12_alone_63 0 rfl ?_
        exact x_iret (S := xS) (post := fun r _ => (2 ≤ x1 ∧ x1 ≤ 6 ∧ (x2 = 2 ∧ r = 10 ∨ x2 = 1 ∧ r = 0 ∨ x2 = 0 ∧ r = iShl 1 x1)) ∨ (¬ (2 ≤ x1 ∧ x1 ≤ 6 ∧ 0 ≤ x2 ∧ x2 ≤ 2) ∧ r = -1)) (w1 := fun u : xS => MW cy ad u.1 u.2.1 u.2.2) (a := 10) C hr rfl dX12_alone_64 (by decide) (zV3, J, Rr) rfl (by omega)
    · refine x_if_ne_f C.1 (tgt := 21) dX12_alone_16 (by decide) (by decide) (by decide) ?_
      refine x_iconst C.1 (n := -1) dX12_alone_19 ?_
      exact x_iret (S := xS) (post := fun r _ => (2 ≤ x1 ∧ x1 ≤ 6 ∧ (x2 = 2 ∧ r = 10 ∨ x2 = 1 ∧ r = 0 ∨ x2 = 0 ∧ r = iShl 1 x1)) ∨ (¬ (2 ≤ x1 ∧ x1 ≤ 6 ∧ 0 ≤ x2 ∧ x2 ≤ 2) ∧ r = -1)) (w1 := fun u : xS => MW cy ad u.1 u.2.1 u.2.2) (a := (-1)) C hr rfl dX12_alone_20 (by decide) (V, J, Rr) rfl (by omega)
  · refine x_if_eq_t C.1 (tgt := 19) dX12_alone_7 (by decide) (by decide) (by decide) ?_
    refine x_iconst C.1 (n := -1) dX12_alone_19 ?_
    exact x_iret (S := xS) (post := fun r _ => (2 ≤ x1 ∧ x1 ≤ 6 ∧ (x2 = 2 ∧ r = 10 ∨ x2 = 1 ∧ r = 0 ∨ x2 = 0 ∧ r = iShl 1 x1)) ∨ (¬ (2 ≤ x1 ∧ x1 ≤ 6 ∧ 0 ≤ x2 ∧ x2 ≤ 2) ∧ r = -1)) (w1 := fun u : xS => MW cy ad u.1 u.2.1 u.2.2) (a := (-1)) C hr rfl dX12_alone_20 (by decide) (V, J, Rr) rfl (by omega)
