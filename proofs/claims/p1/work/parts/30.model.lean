theorem bits1 (y : Int) : 0 ≤ iAnd y 1 ∧ iAnd y 1 ≤ 1 := iAnd_le y (by decide)
theorem dX12_in_0 : decode cX12_in 0 = .ok (.iload_n 0, 1) := by decide +kernel
theorem dX12_in_1 : decode cX12_in 1 = .ok (.iload_n 1, 1) := by decide +kernel
theorem dX12_in_2 : decode cX12_in 2 = .ok (.if_icmp .lt 12, 3) := by decide +kernel
theorem dX12_in_5 : decode cX12_in 5 = .ok (.iload_n 0, 1) := by decide +kernel
theorem dX12_in_6 : decode cX12_in 6 = .ok (.iload_n 2, 1) := by decide +kernel
theorem dX12_in_7 : decode cX12_in 7 = .ok (.if_icmp .gt 7, 3) := by decide +kernel
theorem dX12_in_10 : decode cX12_in 10 = .ok (.iconst 1, 1) := by decide +kernel
theorem dX12_in_11 : decode cX12_in 11 = .ok (.goto 4, 3) := by decide +kernel
theorem dX12_in_14 : decode cX12_in 14 = .ok (.iconst 0, 1) := by decide +kernel
theorem dX12_in_15 : decode cX12_in 15 = .ok (.ireturn, 1) := by decide +kernel
set_option maxHeartbeats 4000000 in
set_option maxRecDepth 100000 in
theorem c_in (l : Launch) (D : va_G) (cy : Nat → ClassId) (x least most : Int) (hx : R32 x) (hleast : R32 least) (hmost : R32 most) : xMi l D (xTY cy) yX12_in cX12_in 3 (some .boolean) 0 0 0 0 [vI x, vI least, vI most] [] (fun _ : Unit => []) (fun r _ => (r = 1 ∧ least ≤ x ∧ x ≤ most) ∨ (r = 0 ∧ ¬ (least ≤ x ∧ x ≤ most))) := by
  refine xMi.mk (lv0 := [(0, vI x), (1, vI least), (2, vI most)]) (by decide) rfl (Nat.le_of_ble_eq_true rfl) (fun p e s m below meth c A C hr hnm hAe => ?_)
  have C : xC2 p s m _ meth c D A s.heap 3 cX12_in RX12 (xTY cy) := C
  refine x_iload_n C.1 dX12_in_0 0 rfl ?_
  refine x_iload_n C.1 dX12_in_1 1 rfl ?_
  refine x_icmp_lt C.1 (tgt := 14) dX12_in_2 (by decide) hx hleast (fun c2_1 => ?_) (fun c2_1 => ?_)
  · refine x_iconst C.1 (n := 0) dX12_in_14 ?_
    exact x_zret (S := Unit) (post := fun r _ => (r = 1 ∧ least ≤ x ∧ x ≤ most) ∨ (r = 0 ∧ ¬ (least ≤ x ∧ x ≤ most))) (w1 := fun _ : Unit => []) (a := 0) C hr rfl dX12_in_15 (by decide) () rfl (by omega)
  · refine x_iload_n C.1 dX12_in_5 0 rfl ?_
    refine x_iload_n C.1 dX12_in_6 2 rfl ?_
    refine x_icmp_gt C.1 (tgt := 14) dX12_in_7 (by decide) hx hmost (fun c7_2 => ?_) (fun c7_2 => ?_)
    · refine x_iconst C.1 (n := 0) dX12_in_14 ?_
      exact x_zret (S := Unit) (post := fun r _ => (r = 1 ∧ least ≤ x ∧ x ≤ most) ∨ (r = 0 ∧ ¬ (least ≤ x ∧ x ≤ most))) (w1 := fun _ : Unit => []) (a := 0) C hr rfl dX12_in_15 (by decide) () rfl (by omega)
    · refine x_iconst C.1 (n := 1) dX12_in_10 ?_
      refine x_goto C.1 (tgt := 15) dX12_in_11 (by decide) ?_
      exact x_zret (S := Unit) (post := fun r _ => (r = 1 ∧ least ≤ x ∧ x ≤ most) ∨ (r = 0 ∧ ¬ (least ≤ x ∧ x ≤ most))) (w1 := fun _ : Unit => []) (a := 1) C hr rfl dX12_in_15 (by decide) () rfl (by omega)
theorem dX12_has_0 : decode cX12_has 0 = .ok (.iload_n 0, 1) := by decide +kernel
theorem dX12_has_1 : decode cX12_has 1 = .ok (.iload_n 1, 1) := by decide +kernel
theorem dX12_has_2 : decode cX12_has 2 = .ok (.ishr, 1) := by decide +kernel
theorem dX12_has_3 : decode cX12_has 3 = .ok (.iconst 1, 1) := by decide +kernel
theorem dX12_has_4 : decode cX12_has 4 = .ok (.iand, 1) := by decide +kernel
theorem dX12_has_5 : decode cX12_has 5 = .ok (.iconst 1, 1) := by decide +kernel
theorem dX12_has_6 : decode cX12_has 6 = .ok (.if_icmp .ne 7, 3) := by decide +kernel
theorem dX12_has_9 : decode cX12_has 9 = .ok (.iconst 1, 1) := by decide +kernel
theorem dX12_has_10 : decode cX12_has 10 = .ok (.goto 4, 3) := by decide +kernel
theorem dX12_has_13 : decode cX12_has 13 = .ok (.iconst 0, 1) := by decide +kernel
theorem dX12_has_14 : decode cX12_has 14 = .ok (.ireturn, 1) := by decide +kernel
set_option maxHeartbeats 4000000 in
set_option maxRecDepth 100000 in
theorem c_has (l : Launch) (D : va_G) (cy : Nat → ClassId) (x k : Int) (hx : R32 x) (hk : R32 k) : xMi l D (xTY cy) yX12_has cX12_has 2 (some .boolean) 0 0 0 0 [vI x, vI k] [] (fun _ : Unit => []) (fun r _ => (r = 1 ∧ iAnd (iShr x k) 1 = 1) ∨ (r = 0 ∧ ¬ iAnd (iShr x k) 1 = 1)) := by
  refine xMi.mk (lv0 := [(0, vI x), (1, vI k)]) (by decide) rfl (Nat.le_of_ble_eq_true rfl) (fun p e s m below meth c A C hr hnm hAe => ?_)
  have C : xC2 p s m _ meth c D A s.heap 2 cX12_has RX12 (xTY cy) := C
  refine x_iload_n C.1 dX12_has_0 0 rfl ?_
  refine x_iload_n C.1 dX12_has_1 1 rfl ?_
  refine x_ishr C.1 (v := iShr x k) rfl dX12_has_2 ?_
  refine x_iconst C.1 (n := 1) dX12_has_3 ?_
  refine x_iand C.1 (v := iAnd (iShr x k) 1) rfl dX12_has_4 ?_
  refine x_iconst C.1 (n := 1) dX12_has_5 ?_
  refine x_icmp_ne C.1 (tgt := 13) dX12_has_6 (by decide) (xi_r _) (by decide) (fun c6_1 => ?_) (fun c6_1 => ?_)
  · refine x_iconst C.1 (n := 0) dX12_has_13 ?_
    exact x_zret (S := Unit) (post := fun r _ => (r = 1 ∧ iAnd (iShr x k) 1 = 1) ∨ (r = 0 ∧ ¬ iAnd (iShr x k) 1 = 1)) (w1 := fun _ : Unit => []) (a := 0) C hr rfl dX12_has_14 (by decide) () rfl (by omega)
  · refine x_iconst C.1 (n := 1) dX12_has_9 ?_
    refine x_goto C.1 (tgt := 14) dX12_has_10 (by decide) ?_
    exact x_zret (S := Unit) (post := fun r _ => (r = 1 ∧ iAnd (iShr x k) 1 = 1) ∨ (r = 0 ∧ ¬ iAnd (iShr x k) 1 = 1)) (w1 := fun _ : Unit => []) (a := 1) C hr rfl dX12_has_14 (by decide) () rfl (by omega)
theorem dX12_bits_0 : decode cX12_bits 0 = .ok (.iconst 0, 1) := by decide +kernel
theorem dX12_bits_1 : decode cX12_bits 1 = .ok (.istore_n 1, 1) := by decide +kernel
theorem dX12_bits_2 : decode cX12_bits 2 = .ok (.iconst 0, 1) := by decide +kernel
theorem dX12_bits_3 : decode cX12_bits 3 = .ok (.istore_n 2, 1) := by decide +kernel
theorem dX12_bits_4 : decode cX12_bits 4 = .ok (.iload_n 2, 1) := by decide +kernel
theorem dX12_bits_5 : decode cX12_bits 5 = .ok (.bipush 8, 2) := by decide +kernel
theorem dX12_bits_7 : decode cX12_bits 7 = .ok (.if_icmp .ge 17, 3) := by decide +kernel
theorem dX12_bits_10 : decode cX12_bits 10 = .ok (.iload_n 1, 1) := by decide +kernel
theorem dX12_bits_11 : decode cX12_bits 11 = .ok (.iload_n 0, 1) := by decide +kernel
theorem dX12_bits_12 : decode cX12_bits 12 = .ok (.iload_n 2, 1) := by decide +kernel
theorem dX12_bits_13 : decode cX12_bits 13 = .ok (.ishr, 1) := by decide +kernel
theorem dX12_bits_14 : decode cX12_bits 14 = .ok (.iconst 1, 1) := by decide +kernel
theorem dX12_bits_15 : decode cX12_bits 15 = .ok (.iand, 1) := by decide +kernel
theorem dX12_bits_16 : decode cX12_bits 16 = .ok (.iadd, 1) := by decide +kernel
theorem dX12_bits_17 : decode cX12_bits 17 = .ok (.istore_n 1, 1) := by decide +kernel
theorem dX12_bits_18 : decode cX12_bits 18 = .ok (.iinc 2 1, 3) := by decide +kernel
theorem dX12_bits_21 : decode cX12_bits 21 = .ok (.goto (-17), 3) := by decide +kernel
theorem dX12_bits_24 : decode cX12_bits 24 = .ok (.iload_n 1, 1) := by decide +kernel
theorem dX12_bits_25 : decode cX12_bits 25 = .ok (.ireturn, 1) := by decide +kernel
set_option maxHeartbeats 4000000 in
set_option maxRecDepth 100000 in
theorem c_bits (l : Launch) (D : va_G) (cy : Nat → ClassId) (x1 : Int) (hx1 : R32 x1) : xMi l D (xTY cy) yX12_bits cX12_bits 3 (some .int) 0 0 0 0 [vI x1] [] (fun _ : Unit => []) (fun r _ => (0 ≤ r ∧ r ≤ 8) ∧ (x1 = 0 → r = 0)) := by
  refine xMi.mk (lv0 := [(0, vI x1)]) (by decide) rfl (Nat.le_of_ble_eq_true rfl) (fun p e s m below meth c A C hr hnm hAe => ?_)
  have C : xC2 p s m _ meth c D A s.heap 3 cX12_bits RX12 (xTY cy) := C
  refine x_iconst C.1 (n := 0) dX12_bits_0 ?_
  refine x_istore_n C.1 (lv' := [(1, vI 0), (0, vI x1)]) dX12_bits_1 (by decide) rfl ?_
  refine x_iconst C.1 (n := 0) dX12_bits_2 ?_
  refine x_istore_n C.1 (lv' := [(2, vI 0), (1, vI 0), (0, vI x1)]) dX12_bits_3 (by decide) rfl ?_
  refine x_iload_n C.1 dX12_bits_4 0 rfl ?_
  refine x_bipush C.1 (n := 8) dX12_bits_5 ?_
  refine x_icmp_ge_f C.1 (tgt := 24) dX12_bits_7 (by decide) (by decide) (by decide) (by decide) ?_
  refine x_iload_n C.1 dX12_bits_10 1 rfl ?_
  refine x_iload_n C.1 dX12_bits_11 2 rfl ?_
  refine x_iload_n C.1 dX12_bits_12 0 rfl ?_
  refine x_ishr C.1 (v := iShr x1 0) rfl dX12_bits_13 ?_
  refine x_iconst C.1 (n := 1) dX12_bits_14 ?_
  refine x_iand C.1 (v := iAnd (iShr x1 0) 1) rfl dX12_bits_15 ?_
  refine x_iadd C.1 (v := 0 + (iAnd (iShr x1 0) 1)) rfl dX12_bits_16 ?_
  refine x_istore_n C.1 (lv' := [(1, vI (0 + (iAnd (iShr x1 0) 1))), (2, vI 0), (0, vI x1)]) dX12_bits_17 (by decide) rfl ?_
  refine x_iinc C.1 (v := 1) (lv' := [(2, vI 1), (1, vI (0 + (iAnd (iShr x1 0) 1))), (0, vI x1)]) (by decide) dX12_bits_18 1 rfl (by decide) rfl ?_
  refine x_goto C.1 (tgt := 4) dX12_bits_21 (by decide) ?_
  refine x_iload_n C.1 dX12_bits_4 0 rfl ?_
  refine x_bipush C.1 (n := 8) dX12_bits_5 ?_
  refine x_icmp_ge_f C.1 (tgt := 24) dX12_bits_7 (by decide) (by decide) (by decide) (by decide) ?_
  refine x_iload_n C.1 dX12_bits_10 1 rfl ?_
  refine x_iload_n C.1 dX12_bits_11 2 rfl ?_
  refine x_iload_n C.1 dX12_bits_12 0 rfl ?_
  refine x_ishr C.1 (v := iShr x1 1) rfl dX12_bits_13 ?_
  refine x_iconst C.1 (n := 1) dX12_bits_14 ?_
  refine x_iand C.1 (v := iAnd (iShr x1 1) 1) rfl dX12_bits_15 ?_
  refine x_iadd C.1 (v := (0 + (iAnd (iShr x1 0) 1)) + (iAnd (iShr x1 1) 1)) rfl dX12_bits_16 ?_
  refine x_istore_n C.1 (lv' := [(1, vI ((0 + (iAnd (iShr x1 0) 1)) + (iAnd (iShr x1 1) 1))), (2, vI 1), (0, vI x1)]) dX12_bits_17 (by decide) rfl ?_
  refine x_iinc C.1 (v := 2) (lv' := [(2, vI 2), (1, vI ((0 + (iAnd (iShr x1 0) 1)) + (iAnd (iShr x1 1) 1))), (0, vI x1)]) (by decide) dX12_bits_18 1 rfl (by decide) rfl ?_
  refine x_goto C.1 (tgt := 4) dX12_bits_21 (by decide) ?_
  refine x_iload_n C.1 dX12_bits_4 0 rfl ?_
  refine x_bipush C.1 (n := 8) dX12_bits_5 ?_
  refine x_icmp_ge_f C.1 (tgt := 24) dX12_bits_7 (by decide) (by decide) (by decide) (by decide) ?_
  refine x_iload_n C.1 dX12_bits_10 1 rfl ?_
  refine x_iload_n C.1 dX12_bits_11 2 rfl ?_
  refine x_iload_n C.1 dX12_bits_12 0 rfl ?_
  refine x_ishr C.1 (v := iShr x1 2) rfl dX12_bits_13 ?_
  refine x_iconst C.1 (n := 1) dX12_bits_14 ?_
  refine x_iand C.1 (v := iAnd (iShr x1 2) 1) rfl dX12_bits_15 ?_
  refine x_iadd C.1 (v := ((0 + (iAnd (iShr x1 0) 1)) + (iAnd (iShr x1 1) 1)) + (iAnd (iShr x1 2) 1)) rfl dX12_bits_16 ?_
  refine x_istore_n C.1 (lv' := [(1, vI (((0 + (iAnd (iShr x1 0) 1)) + (iAnd (iShr x1 1) 1)) + (iAnd (iShr x1 2) 1))), (2, vI 2), (0, vI x1)]) dX12_bits_17 (by decide) rfl ?_
  refine x_iinc C.1 (v := 3) (lv' := [(2, vI 3), (1, vI (((0 + (iAnd (iShr x1 0) 1)) + (iAnd (iShr x1 1) 1)) + (iAnd (iShr x1 2) 1))), (0, vI x1)]) (by decide) dX12_bits_18 1 rfl (by decide) rfl ?_
  refine x_goto C.1 (tgt := 4) dX12_bits_21 (by decide) ?_
  refine x_iload_n C.1 dX12_bits_4 0 rfl ?_
  refine x_bipush C.1 (n := 8) dX12_bits_5 ?_
  refine x_icmp_ge_f C.1 (tgt := 24) dX12_bits_7 (by decide) (by decide) (by decide) (by decide) ?_
  refine x_iload_n C.1 dX12_bits_10 1 rfl ?_
  refine x_iload_n C.1 dX12_bits_11 2 rfl ?_
  refine x_iload_n C.1 dX12_bits_12 0 rfl ?_
  refine x_ishr C.1 (v := iShr x1 3) rfl dX12_bits_13 ?_
  refine x_iconst C.1 (n := 1) dX12_bits_14 ?_
  refine x_iand C.1 (v := iAnd (iShr x1 3) 1) rfl dX12_bits_15 ?_
  refine x_iadd C.1 (v := (((0 + (iAnd (iShr x1 0) 1)) + (iAnd (iShr x1 1) 1)) + (iAnd (iShr x1 2) 1)) + (iAnd (iShr x1 3) 1)) rfl dX12_bits_16 ?_
  refine x_istore_n C.1 (lv' := [(1, vI ((((0 + (iAnd (iShr x1 0) 1)) + (iAnd (iShr x1 1) 1)) + (iAnd (iShr x1 2) 1)) + (iAnd (iShr x1 3) 1))), (2, vI 3), (0, vI x1)]) dX12_bits_17 (by decide) rfl ?_
  refine x_iinc C.1 (v := 4) (lv' := [(2, vI 4), (1, vI ((((0 + (iAnd (iShr x1 0) 1)) + (iAnd (iShr x1 1) 1)) + (iAnd (iShr x1 2) 1)) + (iAnd (iShr x1 3) 1))), (0, vI x1)]) (by decide) dX12_bits_18 1 rfl (by decide) rfl ?_
  refine x_goto C.1 (tgt := 4) dX12_bits_21 (by decide) ?_
  refine x_iload_n C.1 dX12_bits_4 0 rfl ?_
  refine x_bipush C.1 (n := 8) dX12_bits_5 ?_
  refine x_icmp_ge_f C.1 (tgt := 24) dX12_bits_7 (by decide) (by decide) (by decide) (by decide) ?_
  refine x_iload_n C.1 dX12_bits_10 1 rfl ?_
  refine x_iload_n C.1 dX12_bits_11 2 rfl ?_
  refine x_iload_n C.1 dX12_bits_12 0 rfl ?_
  refine x_ishr C.1 (v := iShr x1 4) rfl dX12_bits_13 ?_
  refine x_iconst C.1 (n := 1) dX12_bits_14 ?_
  refine x_iand C.1 (v := iAnd (iShr x1 4) 1) rfl dX12_bits_15 ?_
  refine x_iadd C.1 (v := ((((0 + (iAnd (iShr x1 0) 1)) + (iAnd (iShr x1 1) 1)) + (iAnd (iShr x1 2) 1)) + (iAnd (iShr x1 3) 1)) + (iAnd (iShr x1 4) 1)) rfl dX12_bits_16 ?_
  refine x_istore_n C.1 (lv' := [(1, vI (((((0 + (iAnd (iShr x1 0) 1)) + (iAnd (iShr x1 1) 1)) + (iAnd (iShr x1 2) 1)) + (iAnd (iShr x1 3) 1)) + (iAnd (iShr x1 4) 1))), (2, vI 4), (0, vI x1)]) dX12_bits_17 (by decide) rfl ?_
  refine x_iinc C.1 (v := 5) (lv' := [(2, vI 5), (1, vI (((((0 + (iAnd (iShr x1 0) 1)) + (iAnd (iShr x1 1) 1)) + (iAnd (iShr x1 2) 1)) + (iAnd (iShr x1 3) 1)) + (iAnd (iShr x1 4) 1))), (0, vI x1)]) (by decide) dX12_bits_18 1 rfl (by decide) rfl ?_
  refine x_goto C.1 (tgt := 4) dX12_bits_21 (by decide) ?_
  refine x_iload_n C.1 dX12_bits_4 0 rfl ?_
  refine x_bipush C.1 (n := 8) dX12_bits_5 ?_
  refine x_icmp_ge_f C.1 (tgt := 24) dX12_bits_7 (by decide) (by decide) (by decide) (by decide) ?_
  refine x_iload_n C.1 dX12_bits_10 1 rfl ?_
  refine x_iload_n C.1 dX12_bits_11 2 rfl ?_
  refine x_iload_n C.1 dX12_bits_12 0 rfl ?_
  refine x_ishr C.1 (v := iShr x1 5) rfl dX12_bits_13 ?_
  refine x_iconst C.1 (n := 1) dX12_bits_14 ?_
  refine x_iand C.1 (v := iAnd (iShr x1 5) 1) rfl dX12_bits_15 ?_
  refine x_iadd C.1 (v := (((((0 + (iAnd (iShr x1 0) 1)) + (iAnd (iShr x1 1) 1)) + (iAnd (iShr x1 2) 1)) + (iAnd (iShr x1 3) 1)) + (iAnd (iShr x1 4) 1)) + (iAnd (iShr x1 5) 1)) rfl dX12_bits_16 ?_
  refine x_istore_n C.1 (lv' := [(1, vI ((((((0 + (iAnd (iShr x1 0) 1)) + (iAnd (iShr x1 1) 1)) + (iAnd (iShr x1 2) 1)) + (iAnd (iShr x1 3) 1)) + (iAnd (iShr x1 4) 1)) + (iAnd (iShr x1 5) 1))), (2, vI 5), (0, vI x1)]) dX12_bits_17 (by decide) rfl ?_
  refine x_iinc C.1 (v := 6) (lv' := [(2, vI 6), (1, vI ((((((0 + (iAnd (iShr x1 0) 1)) + (iAnd (iShr x1 1) 1)) + (iAnd (iShr x1 2) 1)) + (iAnd (iShr x1 3) 1)) + (iAnd (iShr x1 4) 1)) + (iAnd (iShr x1 5) 1))), (0, vI x1)]) (by decide) dX12_bits_18 1 rfl (by decide) rfl ?_
  refine x_goto C.1 (tgt := 4) dX12_bits_21 (by decide) ?_
  refine x_iload_n C.1 dX12_bits_4 0 rfl ?_
  refine x_bipush C.1 (n := 8) dX12_bits_5 ?_
  refine x_icmp_ge_f C.1 (tgt := 24) dX12_bits_7 (by decide) (by decide) (by decide) (by decide) ?_
  refine x_iload_n C.1 dX12_bits_10 1 rfl ?_
  refine x_iload_n C.1 dX12_bits_11 2 rfl ?_
  refine x_iload_n C.1 dX12_bits_12 0 rfl ?_
  refine x_ishr C.1 (v := iShr x1 6) rfl dX12_bits_13 ?_
  refine x_iconst C.1 (n := 1) dX12_bits_14 ?_
  refine x_iand C.1 (v := iAnd (iShr x1 6) 1) rfl dX12_bits_15 ?_
  refine x_iadd C.1 (v := ((((((0 + (iAnd (iShr x1 0) 1)) + (iAnd (iShr x1 1) 1)) + (iAnd (iShr x1 2) 1)) + (iAnd (iShr x1 3) 1)) + (iAnd (iShr x1 4) 1)) + (iAnd (iShr x1 5) 1)) + (iAnd (iShr x1 6) 1)) rfl dX12_bits_16 ?_
  refine x_istore_n C.1 (lv' := [(1, vI (((((((0 + (iAnd (iShr x1 0) 1)) + (iAnd (iShr x1 1) 1)) + (iAnd (iShr x1 2) 1)) + (iAnd (iShr x1 3) 1)) + (iAnd (iShr x1 4) 1)) + (iAnd (iShr x1 5) 1)) + (iAnd (iShr x1 6) 1))), (2, vI 6), (0, vI x1)]) dX12_bits_17 (by decide) rfl ?_
  refine x_iinc C.1 (v := 7) (lv' := [(2, vI 7), (1, vI (((((((0 + (iAnd (iShr x1 0) 1)) + (iAnd (iShr x1 1) 1)) + (iAnd (iShr x1 2) 1)) + (iAnd (iShr x1 3) 1)) + (iAnd (iShr x1 4) 1)) + (iAnd (iShr x1 5) 1)) + (iAnd (iShr x1 6) 1))), (0, vI x1)]) (by decide) dX12_bits_18 1 rfl (by decide) rfl ?_
  refine x_goto C.1 (tgt := 4) dX12_bits_21 (by decide) ?_
  refine x_iload_n C.1 dX12_bits_4 0 rfl ?_
  refine x_bipush C.1 (n := 8) dX12_bits_5 ?_
  refine x_icmp_ge_f C.1 (tgt := 24) dX12_bits_7 (by decide) (by decide) (by decide) (by decide) ?_
  refine x_iload_n C.1 dX12_bits_10 1 rfl ?_
  refine x_iload_n C.1 dX12_bits_11 2 rfl ?_
  refine x_iload_n C.1 dX12_bits_12 0 rfl ?_
  refine x_ishr C.1 (v := iShr x1 7) rfl dX12_bits_13 ?_
  refine x_iconst C.1 (n := 1) dX12_bits_14 ?_
  refine x_iand C.1 (v := iAnd (iShr x1 7) 1) rfl dX12_bits_15 ?_
  refine x_iadd C.1 (v := (((((((0 + (iAnd (iShr x1 0) 1)) + (iAnd (iShr x1 1) 1)) + (iAnd (iShr x1 2) 1)) + (iAnd (iShr x1 3) 1)) + (iAnd (iShr x1 4) 1)) + (iAnd (iShr x1 5) 1)) + (iAnd (iShr x1 6) 1)) + (iAnd (iShr x1 7) 1)) rfl dX12_bits_16 ?_
  refine x_istore_n C.1 (lv' := [(1, vI ((((((((0 + (iAnd (iShr x1 0) 1)) + (iAnd (iShr x1 1) 1)) + (iAnd (iShr x1 2) 1)) + (iAnd (iShr x1 3) 1)) + (iAnd (iShr x1 4) 1)) + (iAnd (iShr x1 5) 1)) + (iAnd (iShr x1 6) 1)) + (iAnd (iShr x1 7) 1))), (2, vI 7), (0, vI x1)]) dX12_bits_17 (by decide) rfl ?_
  refine x_iinc C.1 (v := 8) (lv' := [(2, vI 8), (1, vI ((((((((0 + (iAnd (iShr x1 0) 1)) + (iAnd (iShr x1 1) 1)) + (iAnd (iShr x1 2) 1)) + (iAnd (iShr x1 3) 1)) + (iAnd (iShr x1 4) 1)) + (iAnd (iShr x1 5) 1)) + (iAnd (iShr x1 6) 1)) + (iAnd (iShr x1 7) 1))), (0, vI x1)]) (by decide) dX12_bits_18 1 rfl (by decide) rfl ?_
  refine x_goto C.1 (tgt := 4) dX12_bits_21 (by decide) ?_
  refine x_iload_n C.1 dX12_bits_4 0 rfl ?_
  refine x_bipush C.1 (n := 8) dX12_bits_5 ?_
  refine x_icmp_ge_t C.1 (tgt := 24) dX12_bits_7 (by decide) (by decide) (by decide) (by decide) ?_
  have hq0 := bits1 (iShr x1 0)
  have hq1 := bits1 (iShr x1 1)
  have hq2 := bits1 (iShr x1 2)
  have hq3 := bits1 (iShr x1 3)
  have hq4 := bits1 (iShr x1 4)
  have hq5 := bits1 (iShr x1 5)
  have hq6 := bits1 (iShr x1 6)
  have hq7 := bits1 (iShr x1 7)
  refine x_iload_n C.1 dX12_bits_24 1 rfl ?_
  exact x_iret (S := Unit) (post := fun r _ => (0 ≤ r ∧ r ≤ 8) ∧ (x1 = 0 → r = 0)) (w1 := fun _ : Unit => []) (a := (((((((0 + (iAnd (iShr x1 0) 1)) + (iAnd (iShr x1 1) 1)) + (iAnd (iShr x1 2) 1)) + (iAnd (iShr x1 3) 1)) + (iAnd (iShr x1 4) 1)) + (iAnd (iShr x1 5) 1)) + (iAnd (iShr x1 6) 1)) + (iAnd (iShr x1 7) 1)) C hr rfl dX12_bits_25 (by omega) () rfl ⟨by omega, by intro h; subst h; decide +kernel⟩
theorem hd_yX12_has : yX12_has.cls ≠ "java/lang/invoke/MethodHandle" ∧ yX12_has.cls ≠ "java/lang/invoke/VarHandle" ∧ (parseMethodDescriptor yX12_has.desc).map (fun d => d.parameters.length) = some 2 := by decide +kernel
theorem dX12_isPlant_0 : decode cX12_isPlant 0 = .ok (.iload_n 1, 1) := by decide +kernel
theorem dX12_isPlant_1 : decode cX12_isPlant 1 = .ok (.ifCond .lt 26, 3) := by decide +kernel
theorem dX12_isPlant_4 : decode cX12_isPlant 4 = .ok (.iload_n 1, 1) := by decide +kernel
theorem dX12_isPlant_5 : decode cX12_isPlant 5 = .ok (.iconst 4, 1) := by decide +kernel
theorem dX12_isPlant_6 : decode cX12_isPlant 6 = .ok (.if_icmp .ge 21, 3) := by decide +kernel
theorem dX12_isPlant_9 : decode cX12_isPlant 9 = .ok (.aload_n 0, 1) := by decide +kernel
theorem dX12_isPlant_10 : decode cX12_isPlant 10 = .ok (.getfield 7, 3) := by decide +kernel
theorem dX12_isPlant_13 : decode cX12_isPlant 13 = .ok (.bipush 76, 2) := by decide +kernel
theorem dX12_isPlant_15 : decode cX12_isPlant 15 = .ok (.iaload, 1) := by decide +kernel
theorem dX12_isPlant_16 : decode cX12_isPlant 16 = .ok (.iload_n 1, 1) := by decide +kernel
theorem dX12_isPlant_17 : decode cX12_isPlant 17 = .ok (.invokestatic 118, 3) := by decide +kernel
theorem dX12_isPlant_20 : decode cX12_isPlant 20 = .ok (.ifCond .eq 7, 3) := by decide +kernel
theorem dX12_isPlant_27 : decode cX12_isPlant 27 = .ok (.iconst 0, 1) := by decide +kernel
theorem dX12_isPlant_28 : decode cX12_isPlant 28 = .ok (.ireturn, 1) := by decide +kernel
set_option maxHeartbeats 4000000 in
set_option maxRecDepth 100000 in
theorem g_isPlant (l : Launch) (D : va_G) (cy : Nat → ClassId) (ad : Nat → Nat) (V J : Nat → Nat → Int) (Rr : Nat → Nat → Nat) (hV : VR V) (hJ : VJ J) (x1 : Int) (hx1 : R32 x1) (h76 : V 1 76 = 0) (h78 : V 1 78 = 0) (htp : V 0 4 = 0)  : xMi l D (xTY cy) yX12_isPlant cX12_isPlant 2 (some .boolean) 1 21 0 0 [.ref (ad 0), vI x1] (MW cy ad V J Rr) (fun _ : Unit => MW cy ad V J Rr) (fun r _ => r = 0) := by
  refine xMi.mk (lv0 := [(0, .ref (ad 0)), (1, vI x1)]) (by decide) rfl (Nat.le_of_ble_eq_true rfl) (fun p e s m below meth c A C hr hnm hAe => ?_)
  have C : xC2 p s m _ meth c D A s.heap 2 cX12_isPlant RX12 (xTY cy) := C
  refine x_iload_n C.1 dX12_isPlant_0 1 rfl ?_
  refine x_if_lt C.1 (tgt := 27) dX12_isPlant_1 (by decide) hx1 (fun c1_1 => ?_) (fun c1_1 => ?_)
  · refine x_iconst C.1 (n := 0) dX12_isPlant_27 ?_
    exact x_zret (S := Unit) (post := fun r _ => r = 0) (w1 := fun _ : Unit => MW cy ad V J Rr) (a := 0) C hr rfl dX12_isPlant_28 (by decide) () rfl (by omega)
  · refine x_iload_n C.1 dX12_isPlant_4 1 rfl ?_
    refine x_iconst C.1 (n := 4) dX12_isPlant_5 ?_
    refine x_icmp_ge C.1 (tgt := 27) dX12_isPlant_6 (by decide) hx1 (by decide) (fun c6_2 => ?_) (fun c6_2 => ?_)
    · refine x_iconst C.1 (n := 0) dX12_isPlant_27 ?_
      exact x_zret (S := Unit) (post := fun r _ => r = 0) (w1 := fun _ : Unit => MW cy ad V J Rr) (a := 0) C hr rfl dX12_isPlant_28 (by decide) () rfl (by omega)
    · refine x_aload_n C.1 dX12_isPlant_9 0 rfl ?_
      refine x_getA C (N := 33) (i := 0) (by decide) rfl vc_X12 wx_X12 0 (by decide) wf_X12_7 (a := 1) rfl dX12_isPlant_10 ?_
      refine x_bipush C.1 (n := 76) dX12_isPlant_13 ?_
      refine x_iald C (N := 33) (i := 1) (q := 76) (by decide) rfl (by decide) (by decide) dX12_isPlant_15 (a := 0) h76 ?_
      refine x_iload_n C.1 dX12_isPlant_16 1 rfl ?_
      refine x_callSi C (As := [vI 0, vI x1]) (rest := []) (c_has l D cy 0 x1 (by decide) hx1) (l1 := []) (l2 := _) rfl (w2 := fun _ => _) (fun _ => rfl) rfl wm_yX12_has wn_X12 wl_X12_118 wi_yX12_has hd_yX12_has rfl ⟨Nat.le_of_ble_eq_true rfl, Nat.le_of_ble_eq_true rfl⟩ (Nat.le_of_ble_eq_true rfl) ⟨Nat.le_of_ble_eq_true rfl, Nat.le_of_ble_eq_true rfl⟩ dX12_isPlant_17 (fun r3 u3 hr3 h3 => ?_)
      rcases h3 with ⟨rfl, t3⟩ | ⟨rfl, t3⟩
      · rw [iShr_0, iAnd_0] at t3
        omega
      · refine x_if_eq_t C.1 (tgt := 27) dX12_isPlant_20 (by decide) (by decide) (by decide) ?_
        refine x_iconst C.1 (n := 0) dX12_isPlant_27 ?_
        exact x_zret (S := Unit) (post := fun r _ => r = 0) (w1 := fun _ : Unit => MW cy ad V J Rr) (a := 0) C hr rfl dX12_isPlant_28 (by decide) () rfl (by omega)
theorem hd_yX12_isPlant : yX12_isPlant.cls ≠ "java/lang/invoke/MethodHandle" ∧ yX12_isPlant.cls ≠ "java/lang/invoke/VarHandle" ∧ (parseMethodDescriptor yX12_isPlant.desc).map (fun d => d.parameters.length) = some 1 := by decide +kernel
theorem dX12_lives_0 : decode cX12_lives 0 = .ok (.aload_n 0, 1) := by decide +kernel
theorem dX12_lives_1 : decode cX12_lives 1 = .ok (.iload_n 1, 1) := by decide +kernel
theorem dX12_lives_2 : decode cX12_lives 2 = .ok (.invokevirtual 122, 3) := by decide +kernel
theorem dX12_lives_5 : decode cX12_lives 5 = .ok (.ifCond .eq 21, 3) := by decide +kernel
theorem dX12_lives_26 : decode cX12_lives 26 = .ok (.iconst 0, 1) := by decide +kernel
theorem dX12_lives_27 : decode cX12_lives 27 = .ok (.ireturn, 1) := by decide +kernel
set_option maxHeartbeats 4000000 in
set_option maxRecDepth 100000 in
theorem g_lives (l : Launch) (D : va_G) (cy : Nat → ClassId) (ad : Nat → Nat) (V J : Nat → Nat → Int) (Rr : Nat → Nat → Nat) (hV : VR V) (hJ : VJ J) (x1 : Int) (hx1 : R32 x1) (h76 : V 1 76 = 0) (h78 : V 1 78 = 0) (htp : V 0 4 = 0)  : xMi l D (xTY cy) yX12_lives cX12_lives 2 (some .boolean) 2 42 0 0 [.ref (ad 0), vI x1] (MW cy ad V J Rr) (fun _ : Unit => MW cy ad V J Rr) (fun r _ => r = 0) := by
  refine xMi.mk (lv0 := [(0, .ref (ad 0)), (1, vI x1)]) (by decide) rfl (Nat.le_of_ble_eq_true rfl) (fun p e s m below meth c A C hr hnm hAe => ?_)
  have C : xC2 p s m _ meth c D A s.heap 2 cX12_lives RX12 (xTY cy) := C
  refine x_aload_n C.1 dX12_lives_0 0 rfl ?_
  refine x_iload_n C.1 dX12_lives_1 1 rfl ?_
  refine x_callVi C (As := [vI x1]) (rest := []) 0 (xw_at (N := 33) (i := 0) (by decide) rfl) vc_X12 (g_isPlant l D cy ad V J Rr hV hJ x1 hx1 h76 h78 htp) (l1 := []) (l2 := []) (List.append_nil _).symm (w2 := fun _ => MW cy ad V J Rr) (fun _ => List.append_nil _) rfl wm_yX12_isPlant wn_X12 wl_X12_122 wi_yX12_isPlant we_yX12_isPlant hd_yX12_isPlant rfl ⟨Nat.le_of_ble_eq_true rfl, Nat.le_of_ble_eq_true rfl⟩ (Nat.le_of_ble_eq_true rfl) ⟨Nat.le_of_ble_eq_true rfl, Nat.le_of_ble_eq_true rfl⟩ dX12_lives_2 (fun r1 u1 hr1 h1 => ?_)
  obtain rfl := h1
  refine x_if_eq_t C.1 (tgt := 26) dX12_lives_5 (by decide) (by decide) (by decide) ?_
  refine x_iconst C.1 (n := 0) dX12_lives_26 ?_
  exact x_zret (S := Unit) (post := fun r _ => r = 0) (w1 := fun _ : Unit => MW cy ad V J Rr) (a := 0) C hr rfl dX12_lives_27 (by decide) () rfl (by omega)
theorem dX12_isPerson_0 : decode cX12_isPerson 0 = .ok (.iload_n 1, 1) := by decide +kernel
theorem dX12_isPerson_1 : decode cX12_isPerson 1 = .ok (.ifCond .lt 27, 3) := by decide +kernel
theorem dX12_isPerson_4 : decode cX12_isPerson 4 = .ok (.iload_n 1, 1) := by decide +kernel
theorem dX12_isPerson_5 : decode cX12_isPerson 5 = .ok (.bipush 8, 2) := by decide +kernel
theorem dX12_isPerson_7 : decode cX12_isPerson 7 = .ok (.if_icmp .ge 21, 3) := by decide +kernel
theorem dX12_isPerson_10 : decode cX12_isPerson 10 = .ok (.aload_n 0, 1) := by decide +kernel
theorem dX12_isPerson_11 : decode cX12_isPerson 11 = .ok (.getfield 7, 3) := by decide +kernel
theorem dX12_isPerson_14 : decode cX12_isPerson 14 = .ok (.bipush 78, 2) := by decide +kernel
theorem dX12_isPerson_16 : decode cX12_isPerson 16 = .ok (.iaload, 1) := by decide +kernel
theorem dX12_isPerson_17 : decode cX12_isPerson 17 = .ok (.iload_n 1, 1) := by decide +kernel
theorem dX12_isPerson_18 : decode cX12_isPerson 18 = .ok (.invokestatic 118, 3) := by decide +kernel
theorem dX12_isPerson_21 : decode cX12_isPerson 21 = .ok (.ifCond .eq 7, 3) := by decide +kernel
theorem dX12_isPerson_28 : decode cX12_isPerson 28 = .ok (.iconst 0, 1) := by decide +kernel
theorem dX12_isPerson_29 : decode cX12_isPerson 29 = .ok (.ireturn, 1) := by decide +kernel
set_option maxHeartbeats 4000000 in
set_option maxRecDepth 100000 in
theorem g_isPerson (l : Launch) (D : va_G) (cy : Nat → ClassId) (ad : Nat → Nat) (V J : Nat → Nat → Int) (Rr : Nat → Nat → Nat) (hV : VR V) (hJ : VJ J) (x1 : Int) (hx1 : R32 x1) (h76 : V 1 76 = 0) (h78 : V 1 78 = 0) (htp : V 0 4 = 0)  : xMi l D (xTY cy) yX12_isPerson cX12_isPerson 2 (some .boolean) 1 21 0 0 [.ref (ad 0), vI x1] (MW cy ad V J Rr) (fun _ : Unit => MW cy ad V J Rr) (fun r _ => r = 0) := by
  refine xMi.mk (lv0 := [(0, .ref (ad 0)), (1, vI x1)]) (by decide) rfl (Nat.le_of_ble_eq_true rfl) (fun p e s m below meth c A C hr hnm hAe => ?_)
  have C : xC2 p s m _ meth c D A s.heap 2 cX12_isPerson RX12 (xTY cy) := C
  refine x_iload_n C.1 dX12_isPerson_0 1 rfl ?_
  refine x_if_lt C.1 (tgt := 28) dX12_isPerson_1 (by decide) hx1 (fun c1_1 => ?_) (fun c1_1 => ?_)
  · refine x_iconst C.1 (n := 0) dX12_isPerson_28 ?_
    exact x_zret (S := Unit) (post := fun r _ => r = 0) (w1 := fun _ : Unit => MW cy ad V J Rr) (a := 0) C hr rfl dX12_isPerson_29 (by decide) () rfl (by omega)
  · refine x_iload_n C.1 dX12_isPerson_4 1 rfl ?_
    refine x_bipush C.1 (n := 8) dX12_isPerson_5 ?_
    refine x_icmp_ge C.1 (tgt := 28) dX12_isPerson_7 (by decide) hx1 (by decide) (fun c7_2 => ?_) (fun c7_2 => ?_)
    · refine x_iconst C.1 (n := 0) dX12_isPerson_28 ?_
      exact x_zret (S := Unit) (post := fun r _ => r = 0) (w1 := fun _ : Unit => MW cy ad V J Rr) (a := 0) C hr rfl dX12_isPerson_29 (by decide) () rfl (by omega)
    · refine x_aload_n C.1 dX12_isPerson_10 0 rfl ?_
      refine x_getA C (N := 33) (i := 0) (by decide) rfl vc_X12 wx_X12 0 (by decide) wf_X12_7 (a := 1) rfl dX12_isPerson_11 ?_
      refine x_bipush C.1 (n := 78) dX12_isPerson_14 ?_
      refine x_iald C (N := 33) (i := 1) (q := 78) (by decide) rfl (by decide) (by decide) dX12_isPerson_16 (a := 0) h78 ?_
      refine x_iload_n C.1 dX12_isPerson_17 1 rfl ?_
      refine x_callSi C (As := [vI 0, vI x1]) (rest := []) (c_has l D cy 0 x1 (by decide) hx1) (l1 := []) (l2 := _) rfl (w2 := fun _ => _) (fun _ => rfl) rfl wm_yX12_has wn_X12 wl_X12_118 wi_yX12_has hd_yX12_has rfl ⟨Nat.le_of_ble_eq_true rfl, Nat.le_of_ble_eq_true rfl⟩ (Nat.le_of_ble_eq_true rfl) ⟨Nat.le_of_ble_eq_true rfl, Nat.le_of_ble_eq_true rfl⟩ dX12_isPerson_18 (fun r3 u3 hr3 h3 => ?_)
      rcases h3 with ⟨rfl, t3⟩ | ⟨rfl, t3⟩
      · rw [iShr_0, iAnd_0] at t3
        omega
      · refine x_if_eq_t C.1 (tgt := 28) dX12_isPerson_21 (by decide) (by decide) (by decide) ?_
        refine x_iconst C.1 (n := 0) dX12_isPerson_28 ?_
        exact x_zret (S := Unit) (post := fun r _ => r = 0) (w1 := fun _ : Unit => MW cy ad V J Rr) (a := 0) C hr rfl dX12_isPerson_29 (by decide) () rfl (by omega)
theorem hd_yX12_lives : yX12_lives.cls ≠ "java/lang/invoke/MethodHandle" ∧ yX12_lives.cls ≠ "java/lang/invoke/VarHandle" ∧ (parseMethodDescriptor yX12_lives.desc).map (fun d => d.parameters.length) = some 1 := by decide +kernel
theorem dX12_canGo_0 : decode cX12_canGo 0 = .ok (.aload_n 0, 1) := by decide +kernel
theorem dX12_canGo_1 : decode cX12_canGo 1 = .ok (.iload_n 1, 1) := by decide +kernel
theorem dX12_canGo_2 : decode cX12_canGo 2 = .ok (.invokevirtual 130, 3) := by decide +kernel
theorem dX12_canGo_5 : decode cX12_canGo 5 = .ok (.ifCond .eq 40, 3) := by decide +kernel
theorem dX12_canGo_45 : decode cX12_canGo 45 = .ok (.iconst 0, 1) := by decide +kernel
theorem dX12_canGo_46 : decode cX12_canGo 46 = .ok (.ireturn, 1) := by decide +kernel
set_option maxHeartbeats 4000000 in
set_option maxRecDepth 100000 in
theorem g_canGo (l : Launch) (D : va_G) (cy : Nat → ClassId) (ad : Nat → Nat) (V J : Nat → Nat → Int) (Rr : Nat → Nat → Nat) (hV : VR V) (hJ : VJ J) (x1 x2 x3 : Int) (hx1 : R32 x1) (hx2 : R32 x2) (hx3 : R32 x3) (h76 : V 1 76 = 0) (h78 : V 1 78 = 0) (htp : V 0 4 = 0)  : xMi l D (xTY cy) yX12_canGo cX12_canGo 4 (some .boolean) 3 63 0 0 [.ref (ad 0), vI x1, vI x2, vI x3] (MW cy ad V J Rr) (fun _ : Unit => MW cy ad V J Rr) (fun r _ => r = 0) := by
  refine xMi.mk (lv0 := [(0, .ref (ad 0)), (1, vI x1), (2, vI x2), (3, vI x3)]) (by decide) rfl (Nat.le_of_ble_eq_true rfl) (fun p e s m below meth c A C hr hnm hAe => ?_)
  have C : xC2 p s m _ meth c D A s.heap 4 cX12_canGo RX12 (xTY cy) := C
  refine x_aload_n C.1 dX12_canGo_0 0 rfl ?_
  refine x_iload_n C.1 dX12_canGo_1 1 rfl ?_
  refine x_callVi C (As := [vI x1]) (rest := []) 0 (xw_at (N := 33) (i := 0) (by decide) rfl) vc_X12 (g_lives l D cy ad V J Rr hV hJ x1 hx1 h76 h78 htp) (l1 := []) (l2 := []) (List.append_nil _).symm (w2 := fun _ => MW cy ad V J Rr) (fun _ => List.append_nil _) rfl wm_yX12_lives wn_X12 wl_X12_130 wi_yX12_lives we_yX12_lives hd_yX12_lives rfl ⟨Nat.le_of_ble_eq_true rfl, Nat.le_of_ble_eq_true rfl⟩ (Nat.le_of_ble_eq_true rfl) ⟨Nat.le_of_ble_eq_true rfl, Nat.le_of_ble_eq_true rfl⟩ dX12_canGo_2 (fun r1 u1 hr1 h1 => ?_)
  obtain rfl := h1
  refine x_if_eq_t C.1 (tgt := 45) dX12_canGo_5 (by decide) (by decide) (by decide) ?_
  refine x_iconst C.1 (n := 0) dX12_canGo_45 ?_
  exact x_zret (S := Unit) (post := fun r _ => r = 0) (w1 := fun _ : Unit => MW cy ad V J Rr) (a := 0) C hr rfl dX12_canGo_46 (by decide) () rfl (by omega)
theorem hd_yX12_isPerson : yX12_isPerson.cls ≠ "java/lang/invoke/MethodHandle" ∧ yX12_isPerson.cls ≠ "java/lang/invoke/VarHandle" ∧ (parseMethodDescriptor yX12_isPerson.desc).map (fun d => d.parameters.length) = some 1 := by decide +kernel
theorem dX12_card_0 : decode cX12_card 0 = .ok (.aload_n 0, 1) := by decide +kernel
theorem dX12_card_1 : decode cX12_card 1 = .ok (.iload_n 1, 1) := by decide +kernel
theorem dX12_card_2 : decode cX12_card 2 = .ok (.invokevirtual 122, 3) := by decide +kernel
theorem dX12_card_5 : decode cX12_card 5 = .ok (.ifCond .eq 26, 3) := by decide +kernel
theorem dX12_card_31 : decode cX12_card 31 = .ok (.iconst 0, 1) := by decide +kernel
theorem dX12_card_32 : decode cX12_card 32 = .ok (.ireturn, 1) := by decide +kernel
set_option maxHeartbeats 4000000 in
set_option maxRecDepth 100000 in
theorem g_card (l : Launch) (D : va_G) (cy : Nat → ClassId) (ad : Nat → Nat) (V J : Nat → Nat → Int) (Rr : Nat → Nat → Nat) (hV : VR V) (hJ : VJ J) (x1 x2 : Int) (hx1 : R32 x1) (hx2 : R32 x2) (h76 : V 1 76 = 0) (h78 : V 1 78 = 0) (htp : V 0 4 = 0)  : xMi l D (xTY cy) yX12_card cX12_card 3 (some .boolean) 2 42 0 0 [.ref (ad 0), vI x1, vI x2] (MW cy ad V J Rr) (fun _ : Unit => MW cy ad V J Rr) (fun r _ => r = 0) := by
  refine xMi.mk (lv0 := [(0, .ref (ad 0)), (1, vI x1), (2, vI x2)]) (by decide) rfl (Nat.le_of_ble_eq_true rfl) (fun p e s m below meth c A C hr hnm hAe => ?_)
  have C : xC2 p s m _ meth c D A s.heap 3 cX12_card RX12 (xTY cy) := C
  refine x_aload_n C.1 dX12_card_0 0 rfl ?_
  refine x_iload_n C.1 dX12_card_1 1 rfl ?_
  refine x_callVi C (As := [vI x1]) (rest := []) 0 (xw_at (N := 33) (i := 0) (by decide) rfl) vc_X12 (g_isPlant l D cy ad V J Rr hV hJ x1 hx1 h76 h78 htp) (l1 := []) (l2 := []) (List.append_nil _).symm (w2 := fun _ => MW cy ad V J Rr) (fun _ => List.append_nil _) rfl wm_yX12_isPlant wn_X12 wl_X12_122 wi_yX12_isPlant we_yX12_isPlant hd_yX12_isPlant rfl ⟨Nat.le_of_ble_eq_true rfl, Nat.le_of_ble_eq_true rfl⟩ (Nat.le_of_ble_eq_true rfl) ⟨Nat.le_of_ble_eq_true rfl, Nat.le_of_ble_eq_true rfl⟩ dX12_card_2 (fun r1 u1 hr1 h1 => ?_)
  obtain rfl := h1
  refine x_if_eq_t C.1 (tgt := 31) dX12_card_5 (by decide) (by decide) (by decide) ?_
  refine x_iconst C.1 (n := 0) dX12_card_31 ?_
  exact x_zret (S := Unit) (post := fun r _ => r = 0) (w1 := fun _ : Unit => MW cy ad V J Rr) (a := 0) C hr rfl dX12_card_32 (by decide) () rfl (by omega)
theorem dX12_pour_0 : decode cX12_pour 0 = .ok (.aload_n 0, 1) := by decide +kernel
theorem dX12_pour_1 : decode cX12_pour 1 = .ok (.iload_n 1, 1) := by decide +kernel
theorem dX12_pour_2 : decode cX12_pour 2 = .ok (.invokevirtual 130, 3) := by decide +kernel
theorem dX12_pour_5 : decode cX12_pour 5 = .ok (.ifCond .eq 13, 3) := by decide +kernel
theorem dX12_pour_18 : decode cX12_pour 18 = .ok (.iconst (-1), 1) := by decide +kernel
theorem dX12_pour_19 : decode cX12_pour 19 = .ok (.ireturn, 1) := by decide +kernel
set_option maxHeartbeats 4000000 in
set_option maxRecDepth 100000 in
theorem g_pour (l : Launch) (D : va_G) (cy : Nat → ClassId) (ad : Nat → Nat) (V J : Nat → Nat → Int) (Rr : Nat → Nat → Nat) (hV : VR V) (hJ : VJ J) (x1 x2 : Int) (hx1 : R32 x1) (hx2 : R32 x2) (h76 : V 1 76 = 0) (h78 : V 1 78 = 0) (htp : V 0 4 = 0)  : xMi l D (xTY cy) yX12_pour cX12_pour 3 (some .int) 3 63 0 0 [.ref (ad 0), vI x1, vI x2] (MW cy ad V J Rr) (fun _ : Unit => MW cy ad V J Rr) (fun r _ => r = -1) := by
  refine xMi.mk (lv0 := [(0, .ref (ad 0)), (1, vI x1), (2, vI x2)]) (by decide) rfl (Nat.le_of_ble_eq_true rfl) (fun p e s m below meth c A C hr hnm hAe => ?_)
  have C : xC2 p s m _ meth c D A s.heap 3 cX12_pour RX12 (xTY cy) := C
  refine x_aload_n C.1 dX12_pour_0 0 rfl ?_
  refine x_iload_n C.1 dX12_pour_1 1 rfl ?_
  refine x_callVi C (As := [vI x1]) (rest := []) 0 (xw_at (N := 33) (i := 0) (by decide) rfl) vc_X12 (g_lives l D cy ad V J Rr hV hJ x1 hx1 h76 h78 htp) (l1 := []) (l2 := []) (List.append_nil _).symm (w2 := fun _ => MW cy ad V J Rr) (fun _ => List.append_nil _) rfl wm_yX12_lives wn_X12 wl_X12_130 wi_yX12_lives we_yX12_lives hd_yX12_lives rfl ⟨Nat.le_of_ble_eq_true rfl, Nat.le_of_ble_eq_true rfl⟩ (Nat.le_of_ble_eq_true rfl) ⟨Nat.le_of_ble_eq_true rfl, Nat.le_of_ble_eq_true rfl⟩ dX12_pour_2 (fun r1 u1 hr1 h1 => ?_)
  obtain rfl := h1
  refine x_if_eq_t C.1 (tgt := 18) dX12_pour_5 (by decide) (by decide) (by decide) ?_
  refine x_iconst C.1 (n := -1) dX12_pour_18 ?_
  exact x_iret (S := Unit) (post := fun r _ => r = -1) (w1 := fun _ : Unit => MW cy ad V J Rr) (a := (-1)) C hr rfl dX12_pour_19 (by decide) () rfl (by omega)
theorem dX12_plantIs_0 : decode cX12_plantIs 0 = .ok (.aload_n 0, 1) := by decide +kernel
theorem dX12_plantIs_1 : decode cX12_plantIs 1 = .ok (.iload_n 1, 1) := by decide +kernel
theorem dX12_plantIs_2 : decode cX12_plantIs 2 = .ok (.invokevirtual 122, 3) := by decide +kernel
theorem dX12_plantIs_5 : decode cX12_plantIs 5 = .ok (.ifCond .ne 5, 3) := by decide +kernel
theorem dX12_plantIs_8 : decode cX12_plantIs 8 = .ok (.iconst (-1), 1) := by decide +kernel
theorem dX12_plantIs_9 : decode cX12_plantIs 9 = .ok (.ireturn, 1) := by decide +kernel
set_option maxHeartbeats 4000000 in
set_option maxRecDepth 100000 in
theorem g_plantIs (l : Launch) (D : va_G) (cy : Nat → ClassId) (ad : Nat → Nat) (V J : Nat → Nat → Int) (Rr : Nat → Nat → Nat) (hV : VR V) (hJ : VJ J) (x1 x2 : Int) (hx1 : R32 x1) (hx2 : R32 x2) (h76 : V 1 76 = 0) (h78 : V 1 78 = 0) (htp : V 0 4 = 0)  : xMi l D (xTY cy) yX12_plantIs cX12_plantIs 3 (some .int) 2 42 0 0 [.ref (ad 0), vI x1, vI x2] (MW cy ad V J Rr) (fun _ : Unit => MW cy ad V J Rr) (fun r _ => r = -1) := by
  refine xMi.mk (lv0 := [(0, .ref (ad 0)), (1, vI x1), (2, vI x2)]) (by decide) rfl (Nat.le_of_ble_eq_true rfl) (fun p e s m below meth c A C hr hnm hAe => ?_)
  have C : xC2 p s m _ meth c D A s.heap 3 cX12_plantIs RX12 (xTY cy) := C
  refine x_aload_n C.1 dX12_plantIs_0 0 rfl ?_
  refine x_iload_n C.1 dX12_plantIs_1 1 rfl ?_
  refine x_callVi C (As := [vI x1]) (rest := []) 0 (xw_at (N := 33) (i := 0) (by decide) rfl) vc_X12 (g_isPlant l D cy ad V J Rr hV hJ x1 hx1 h76 h78 htp) (l1 := []) (l2 := []) (List.append_nil _).symm (w2 := fun _ => MW cy ad V J Rr) (fun _ => List.append_nil _) rfl wm_yX12_isPlant wn_X12 wl_X12_122 wi_yX12_isPlant we_yX12_isPlant hd_yX12_isPlant rfl ⟨Nat.le_of_ble_eq_true rfl, Nat.le_of_ble_eq_true rfl⟩ (Nat.le_of_ble_eq_true rfl) ⟨Nat.le_of_ble_eq_true rfl, Nat.le_of_ble_eq_true rfl⟩ dX12_plantIs_2 (fun r1 u1 hr1 h1 => ?_)
  obtain rfl := h1
  refine x_if_ne_f C.1 (tgt := 10) dX12_plantIs_5 (by decide) (by decide) (by decide) ?_
  refine x_iconst C.1 (n := -1) dX12_plantIs_8 ?_
  exact x_iret (S := Unit) (post := fun r _ => r = -1) (w1 := fun _ : Unit => MW cy ad V J Rr) (a := (-1)) C hr rfl dX12_plantIs_9 (by decide) () rfl (by omega)
theorem dX12_gives_0 : decode cX12_gives 0 = .ok (.aload_n 0, 1) := by decide +kernel
theorem dX12_gives_1 : decode cX12_gives 1 = .ok (.iload_n 1, 1) := by decide +kernel
theorem dX12_gives_2 : decode cX12_gives 2 = .ok (.invokevirtual 259, 3) := by decide +kernel
theorem dX12_gives_5 : decode cX12_gives 5 = .ok (.ifCond .eq 11, 3) := by decide +kernel
theorem dX12_gives_16 : decode cX12_gives 16 = .ok (.iconst (-1), 1) := by decide +kernel
theorem dX12_gives_17 : decode cX12_gives 17 = .ok (.ireturn, 1) := by decide +kernel
set_option maxHeartbeats 4000000 in
set_option maxRecDepth 100000 in
theorem g_gives (l : Launch) (D : va_G) (cy : Nat → ClassId) (ad : Nat → Nat) (V J : Nat → Nat → Int) (Rr : Nat → Nat → Nat) (hV : VR V) (hJ : VJ J) (x1 x2 : Int) (hx1 : R32 x1) (hx2 : R32 x2) (h76 : V 1 76 = 0) (h78 : V 1 78 = 0) (htp : V 0 4 = 0)  : xMi l D (xTY cy) yX12_gives cX12_gives 3 (some .int) 2 42 0 0 [.ref (ad 0), vI x1, vI x2] (MW cy ad V J Rr) (fun _ : Unit => MW cy ad V J Rr) (fun r _ => r = -1) := by
  refine xMi.mk (lv0 := [(0, .ref (ad 0)), (1, vI x1), (2, vI x2)]) (by decide) rfl (Nat.le_of_ble_eq_true rfl) (fun p e s m below meth c A C hr hnm hAe => ?_)
  have C : xC2 p s m _ meth c D A s.heap 3 cX12_gives RX12 (xTY cy) := C
  refine x_aload_n C.1 dX12_gives_0 0 rfl ?_
  refine x_iload_n C.1 dX12_gives_1 1 rfl ?_
  refine x_callVi C (As := [vI x1]) (rest := []) 0 (xw_at (N := 33) (i := 0) (by decide) rfl) vc_X12 (g_isPerson l D cy ad V J Rr hV hJ x1 hx1 h76 h78 htp) (l1 := []) (l2 := []) (List.append_nil _).symm (w2 := fun _ => MW cy ad V J Rr) (fun _ => List.append_nil _) rfl wm_yX12_isPerson wn_X12 wl_X12_259 wi_yX12_isPerson we_yX12_isPerson hd_yX12_isPerson rfl ⟨Nat.le_of_ble_eq_true rfl, Nat.le_of_ble_eq_true rfl⟩ (Nat.le_of_ble_eq_true rfl) ⟨Nat.le_of_ble_eq_true rfl, Nat.le_of_ble_eq_true rfl⟩ dX12_gives_2 (fun r1 u1 hr1 h1 => ?_)
  obtain rfl := h1
  refine x_if_eq_t C.1 (tgt := 16) dX12_gives_5 (by decide) (by decide) (by decide) ?_
  refine x_iconst C.1 (n := -1) dX12_gives_16 ?_
  exact x_iret (S := Unit) (post := fun r _ => r = -1) (w1 := fun _ : Unit => MW cy ad V J Rr) (a := (-1)) C hr rfl dX12_gives_17 (by decide) () rfl (by omega)
theorem dX12_lasts_0 : decode cX12_lasts 0 = .ok (.aload_n 0, 1) := by decide +kernel
theorem dX12_lasts_1 : decode cX12_lasts 1 = .ok (.iload_n 1, 1) := by decide +kernel
theorem dX12_lasts_2 : decode cX12_lasts 2 = .ok (.invokevirtual 130, 3) := by decide +kernel
theorem dX12_lasts_5 : decode cX12_lasts 5 = .ok (.ifCond .eq 13, 3) := by decide +kernel
theorem dX12_lasts_18 : decode cX12_lasts 18 = .ok (.iconst (-1), 1) := by decide +kernel
theorem dX12_lasts_19 : decode cX12_lasts 19 = .ok (.ireturn, 1) := by decide +kernel
set_option maxHeartbeats 4000000 in
set_option maxRecDepth 100000 in
theorem g_lasts (l : Launch) (D : va_G) (cy : Nat → ClassId) (ad : Nat → Nat) (V J : Nat → Nat → Int) (Rr : Nat → Nat → Nat) (hV : VR V) (hJ : VJ J) (x1 x2 : Int) (hx1 : R32 x1) (hx2 : R32 x2) (h76 : V 1 76 = 0) (h78 : V 1 78 = 0) (htp : V 0 4 = 0)  : xMi l D (xTY cy) yX12_lasts cX12_lasts 3 (some .int) 3 63 0 0 [.ref (ad 0), vI x1, vI x2] (MW cy ad V J Rr) (fun _ : Unit => MW cy ad V J Rr) (fun r _ => r = -1) := by
  refine xMi.mk (lv0 := [(0, .ref (ad 0)), (1, vI x1), (2, vI x2)]) (by decide) rfl (Nat.le_of_ble_eq_true rfl) (fun p e s m below meth c A C hr hnm hAe => ?_)
  have C : xC2 p s m _ meth c D A s.heap 3 cX12_lasts RX12 (xTY cy) := C
  refine x_aload_n C.1 dX12_lasts_0 0 rfl ?_
  refine x_iload_n C.1 dX12_lasts_1 1 rfl ?_
  refine x_callVi C (As := [vI x1]) (rest := []) 0 (xw_at (N := 33) (i := 0) (by decide) rfl) vc_X12 (g_lives l D cy ad V J Rr hV hJ x1 hx1 h76 h78 htp) (l1 := []) (l2 := []) (List.append_nil _).symm (w2 := fun _ => MW cy ad V J Rr) (fun _ => List.append_nil _) rfl wm_yX12_lives wn_X12 wl_X12_130 wi_yX12_lives we_yX12_lives hd_yX12_lives rfl ⟨Nat.le_of_ble_eq_true rfl, Nat.le_of_ble_eq_true rfl⟩ (Nat.le_of_ble_eq_true rfl) ⟨Nat.le_of_ble_eq_true rfl, Nat.le_of_ble_eq_true rfl⟩ dX12_lasts_2 (fun r1 u1 hr1 h1 => ?_)
  obtain rfl := h1
  refine x_if_eq_t C.1 (tgt := 18) dX12_lasts_5 (by decide) (by decide) (by decide) ?_
  refine x_iconst C.1 (n := -1) dX12_lasts_18 ?_
  exact x_iret (S := Unit) (post := fun r _ => r = -1) (w1 := fun _ : Unit => MW cy ad V J Rr) (a := (-1)) C hr rfl dX12_lasts_19 (by decide) () rfl (by omega)
theorem dX12_needs_0 : decode cX12_needs 0 = .ok (.aload_n 0, 1) := by decide +kernel
theorem dX12_needs_1 : decode cX12_needs 1 = .ok (.iload_n 1, 1) := by decide +kernel
theorem dX12_needs_2 : decode cX12_needs 2 = .ok (.invokevirtual 130, 3) := by decide +kernel
theorem dX12_needs_5 : decode cX12_needs 5 = .ok (.ifCond .eq 13, 3) := by decide +kernel
theorem dX12_needs_18 : decode cX12_needs 18 = .ok (.iconst (-1), 1) := by decide +kernel
theorem dX12_needs_19 : decode cX12_needs 19 = .ok (.ireturn, 1) := by decide +kernel
set_option maxHeartbeats 4000000 in
set_option maxRecDepth 100000 in
theorem g_needs (l : Launch) (D : va_G) (cy : Nat → ClassId) (ad : Nat → Nat) (V J : Nat → Nat → Int) (Rr : Nat → Nat → Nat) (hV : VR V) (hJ : VJ J) (x1 x2 : Int) (hx1 : R32 x1) (hx2 : R32 x2) (h76 : V 1 76 = 0) (h78 : V 1 78 = 0) (htp : V 0 4 = 0)  : xMi l D (xTY cy) yX12_needs cX12_needs 4 (some .int) 3 63 0 0 [.ref (ad 0), vI x1, vI x2] (MW cy ad V J Rr) (fun _ : Unit => MW cy ad V J Rr) (fun r _ => r = -1) := by
  refine xMi.mk (lv0 := [(0, .ref (ad 0)), (1, vI x1), (2, vI x2)]) (by decide) rfl (Nat.le_of_ble_eq_true rfl) (fun p e s m below meth c A C hr hnm hAe => ?_)
  have C : xC2 p s m _ meth c D A s.heap 4 cX12_needs RX12 (xTY cy) := C
  refine x_aload_n C.1 dX12_needs_0 0 rfl ?_
  refine x_iload_n C.1 dX12_needs_1 1 rfl ?_
  refine x_callVi C (As := [vI x1]) (rest := []) 0 (xw_at (N := 33) (i := 0) (by decide) rfl) vc_X12 (g_lives l D cy ad V J Rr hV hJ x1 hx1 h76 h78 htp) (l1 := []) (l2 := []) (List.append_nil _).symm (w2 := fun _ => MW cy ad V J Rr) (fun _ => List.append_nil _) rfl wm_yX12_lives wn_X12 wl_X12_130 wi_yX12_lives we_yX12_lives hd_yX12_lives rfl ⟨Nat.le_of_ble_eq_true rfl, Nat.le_of_ble_eq_true rfl⟩ (Nat.le_of_ble_eq_true rfl) ⟨Nat.le_of_ble_eq_true rfl, Nat.le_of_ble_eq_true rfl⟩ dX12_needs_2 (fun r1 u1 hr1 h1 => ?_)
  obtain rfl := h1
  refine x_if_eq_t C.1 (tgt := 18) dX12_needs_5 (by decide) (by decide) (by decide) ?_
  refine x_iconst C.1 (n := -1) dX12_needs_18 ?_
  exact x_iret (S := Unit) (post := fun r _ => r = -1) (w1 := fun _ : Unit => MW cy ad V J Rr) (a := (-1)) C hr rfl dX12_needs_19 (by decide) () rfl (by omega)
theorem dX12_week_0 : decode cX12_week 0 = .ok (.aload_n 0, 1) := by decide +kernel
theorem dX12_week_1 : decode cX12_week 1 = .ok (.iload_n 1, 1) := by decide +kernel
theorem dX12_week_2 : decode cX12_week 2 = .ok (.invokevirtual 130, 3) := by decide +kernel
theorem dX12_week_5 : decode cX12_week 5 = .ok (.ifCond .eq 41, 3) := by decide +kernel
theorem dX12_week_46 : decode cX12_week 46 = .ok (.iconst (-1), 1) := by decide +kernel
theorem dX12_week_47 : decode cX12_week 47 = .ok (.ireturn, 1) := by decide +kernel
set_option maxHeartbeats 4000000 in
set_option maxRecDepth 100000 in
theorem g_week (l : Launch) (D : va_G) (cy : Nat → ClassId) (ad : Nat → Nat) (V J : Nat → Nat → Int) (Rr : Nat → Nat → Nat) (hV : VR V) (hJ : VJ J) (x1 x2 x3 : Int) (hx1 : R32 x1) (hx2 : R32 x2) (hx3 : R32 x3) (h76 : V 1 76 = 0) (h78 : V 1 78 = 0) (htp : V 0 4 = 0)  : xMi l D (xTY cy) yX12_week cX12_week 7 (some .int) 3 63 0 0 [.ref (ad 0), vI x1, vI x2, vI x3] (MW cy ad V J Rr) (fun _ : Unit => MW cy ad V J Rr) (fun r _ => r = -1) := by
  refine xMi.mk (lv0 := [(0, .ref (ad 0)), (1, vI x1), (2, vI x2), (3, vI x3)]) (by decide) rfl (Nat.le_of_ble_eq_true rfl) (fun p e s m below meth c A C hr hnm hAe => ?_)
  have C : xC2 p s m _ meth c D A s.heap 7 cX12_week RX12 (xTY cy) := C
  refine x_aload_n C.1 dX12_week_0 0 rfl ?_
  refine x_iload_n C.1 dX12_week_1 1 rfl ?_
  refine x_callVi C (As := [vI x1]) (rest := []) 0 (xw_at (N := 33) (i := 0) (by decide) rfl) vc_X12 (g_lives l D cy ad V J Rr hV hJ x1 hx1 h76 h78 htp) (l1 := []) (l2 := []) (List.append_nil _).symm (w2 := fun _ => MW cy ad V J Rr) (fun _ => List.append_nil _) rfl wm_yX12_lives wn_X12 wl_X12_130 wi_yX12_lives we_yX12_lives hd_yX12_lives rfl ⟨Nat.le_of_ble_eq_true rfl, Nat.le_of_ble_eq_true rfl⟩ (Nat.le_of_ble_eq_true rfl) ⟨Nat.le_of_ble_eq_true rfl, Nat.le_of_ble_eq_true rfl⟩ dX12_week_2 (fun r1 u1 hr1 h1 => ?_)
  obtain rfl := h1
  refine x_if_eq_t C.1 (tgt := 46) dX12_week_5 (by decide) (by decide) (by decide) ?_
  refine x_iconst C.1 (n := -1) dX12_week_46 ?_
  exact x_iret (S := Unit) (post := fun r _ => r = -1) (w1 := fun _ : Unit => MW cy ad V J Rr) (a := (-1)) C hr rfl dX12_week_47 (by decide) () rfl (by omega)
theorem dX12_rota_0 : decode cX12_rota 0 = .ok (.aload_n 0, 1) := by decide +kernel
theorem dX12_rota_1 : decode cX12_rota 1 = .ok (.iload_n 1, 1) := by decide +kernel
theorem dX12_rota_2 : decode cX12_rota 2 = .ok (.invokevirtual 130, 3) := by decide +kernel
theorem dX12_rota_5 : decode cX12_rota 5 = .ok (.ifCond .eq 54, 3) := by decide +kernel
theorem dX12_rota_59 : decode cX12_rota 59 = .ok (.iconst (-1), 1) := by decide +kernel
theorem dX12_rota_60 : decode cX12_rota 60 = .ok (.ireturn, 1) := by decide +kernel
set_option maxHeartbeats 4000000 in
set_option maxRecDepth 100000 in
theorem g_rota (l : Launch) (D : va_G) (cy : Nat → ClassId) (ad : Nat → Nat) (V J : Nat → Nat → Int) (Rr : Nat → Nat → Nat) (hV : VR V) (hJ : VJ J) (x1 x2 x3 : Int) (hx1 : R32 x1) (hx2 : R32 x2) (hx3 : R32 x3) (h76 : V 1 76 = 0) (h78 : V 1 78 = 0) (htp : V 0 4 = 0)  : xMi l D (xTY cy) yX12_rota cX12_rota 7 (some .int) 3 63 0 0 [.ref (ad 0), vI x1, vI x2, vI x3] (MW cy ad V J Rr) (fun _ : Unit => MW cy ad V J Rr) (fun r _ => r = -1) := by
  refine xMi.mk (lv0 := [(0, .ref (ad 0)), (1, vI x1), (2, vI x2), (3, vI x3)]) (by decide) rfl (Nat.le_of_ble_eq_true rfl) (fun p e s m below meth c A C hr hnm hAe => ?_)
  have C : xC2 p s m _ meth c D A s.heap 7 cX12_rota RX12 (xTY cy) := C
  refine x_aload_n C.1 dX12_rota_0 0 rfl ?_
  refine x_iload_n C.1 dX12_rota_1 1 rfl ?_
  refine x_callVi C (As := [vI x1]) (rest := []) 0 (xw_at (N := 33) (i := 0) (by decide) rfl) vc_X12 (g_lives l D cy ad V J Rr hV hJ x1 hx1 h76 h78 htp) (l1 := []) (l2 := []) (List.append_nil _).symm (w2 := fun _ => MW cy ad V J Rr) (fun _ => List.append_nil _) rfl wm_yX12_lives wn_X12 wl_X12_130 wi_yX12_lives we_yX12_lives hd_yX12_lives rfl ⟨Nat.le_of_ble_eq_true rfl, Nat.le_of_ble_eq_true rfl⟩ (Nat.le_of_ble_eq_true rfl) ⟨Nat.le_of_ble_eq_true rfl, Nat.le_of_ble_eq_true rfl⟩ dX12_rota_2 (fun r1 u1 hr1 h1 => ?_)
  obtain rfl := h1
  refine x_if_eq_t C.1 (tgt := 59) dX12_rota_5 (by decide) (by decide) (by decide) ?_
  refine x_iconst C.1 (n := -1) dX12_rota_59 ?_
  exact x_iret (S := Unit) (post := fun r _ => r = -1) (w1 := fun _ : Unit => MW cy ad V J Rr) (a := (-1)) C hr rfl dX12_rota_60 (by decide) () rfl (by omega)
theorem hd_yX12_in : yX12_in.cls ≠ "java/lang/invoke/MethodHandle" ∧ yX12_in.cls ≠ "java/lang/invoke/VarHandle" ∧ (parseMethodDescriptor yX12_in.desc).map (fun d => d.parameters.length) = some 3 := by decide +kernel
theorem dX12_reads_0 : decode cX12_reads 0 = .ok (.iload_n 2, 1) := by decide +kernel
theorem dX12_reads_1 : decode cX12_reads 1 = .ok (.iconst 1, 1) := by decide +kernel
theorem dX12_reads_2 : decode cX12_reads 2 = .ok (.sipush 200, 3) := by decide +kernel
theorem dX12_reads_5 : decode cX12_reads 5 = .ok (.invokestatic 126, 3) := by decide +kernel
theorem dX12_reads_8 : decode cX12_reads 8 = .ok (.ifCond .eq 11, 3) := by decide +kernel
theorem dX12_reads_11 : decode cX12_reads 11 = .ok (.iload_n 2, 1) := by decide +kernel
theorem dX12_reads_12 : decode cX12_reads 12 = .ok (.aload_n 0, 1) := by decide +kernel
theorem dX12_reads_13 : decode cX12_reads 13 = .ok (.getfield 137, 3) := by decide +kernel
theorem dX12_reads_16 : decode cX12_reads 16 = .ok (.if_icmp .le 5, 3) := by decide +kernel
theorem dX12_reads_19 : decode cX12_reads 19 = .ok (.iconst (-1), 1) := by decide +kernel
theorem dX12_reads_20 : decode cX12_reads 20 = .ok (.ireturn, 1) := by decide +kernel
set_option maxHeartbeats 4000000 in
set_option maxRecDepth 100000 in
theorem g_reads (l : Launch) (D : va_G) (cy : Nat → ClassId) (ad : Nat → Nat) (V J : Nat → Nat → Int) (Rr : Nat → Nat → Nat) (hV : VR V) (hJ : VJ J) (x1 x2 : Int) (hx1 : R32 x1) (hx2 : R32 x2) (h76 : V 1 76 = 0) (h78 : V 1 78 = 0) (htp : V 0 4 = 0)  : xMi l D (xTY cy) yX12_reads cX12_reads 6 (some .int) 1 22 0 0 [.ref (ad 0), vI x1, vI x2] (MW cy ad V J Rr) (fun _ : Unit => MW cy ad V J Rr) (fun r _ => r = -1) := by
  refine xMi.mk (lv0 := [(0, .ref (ad 0)), (1, vI x1), (2, vI x2)]) (by decide) rfl (Nat.le_of_ble_eq_true rfl) (fun p e s m below meth c A C hr hnm hAe => ?_)
  have C : xC2 p s m _ meth c D A s.heap 6 cX12_reads RX12 (xTY cy) := C
  refine x_iload_n C.1 dX12_reads_0 2 rfl ?_
  refine x_iconst C.1 (n := 1) dX12_reads_1 ?_
  refine x_sipush C.1 (n := 200) dX12_reads_2 ?_
  refine x_callSi C (As := [vI x2, vI 1, vI 200]) (rest := []) (c_in l D cy x2 1 200 hx2 (by decide) (by decide)) (l1 := []) (l2 := _) rfl (w2 := fun _ => _) (fun _ => rfl) rfl wm_yX12_in wn_X12 wl_X12_126 wi_yX12_in hd_yX12_in rfl ⟨Nat.le_of_ble_eq_true rfl, Nat.le_of_ble_eq_true rfl⟩ (Nat.le_of_ble_eq_true rfl) ⟨Nat.le_of_ble_eq_true rfl, Nat.le_of_ble_eq_true rfl⟩ dX12_reads_5 (fun r1 u1 hr1 h1 => ?_)
  rcases h1 with ⟨rfl, t1, t1b⟩ | ⟨rfl, t1⟩
  · refine x_if_eq_f C.1 (tgt := 19) dX12_reads_8 (by decide) (by decide) (by decide) ?_
    refine x_iload_n C.1 dX12_reads_11 2 rfl ?_
    refine x_aload_n C.1 dX12_reads_12 0 rfl ?_
    refine x_getI C (N := 33) (i := 0) (by decide) rfl vc_X12 wx_X12 4 (by decide) wf_X12_137 rfl dX12_reads_13 (a := 0) htp ?_
    refine x_icmp_le_f C.1 (tgt := 21) dX12_reads_16 (by decide) hx2 (by decide) (by omega) ?_
    refine x_iconst C.1 (n := -1) dX12_reads_19 ?_
    exact x_iret (S := Unit) (post := fun r _ => r = -1) (w1 := fun _ : Unit => MW cy ad V J Rr) (a := (-1)) C hr rfl dX12_reads_20 (by decide) () rfl (by omega)
  · refine x_if_eq_t C.1 (tgt := 19) dX12_reads_8 (by decide) (by decide) (by decide) ?_
    refine x_iconst C.1 (n := -1) dX12_reads_19 ?_
    exact x_iret (S := Unit) (post := fun r _ => r = -1) (w1 := fun _ : Unit => MW cy ad V J Rr) (a := (-1)) C hr rfl dX12_reads_20 (by decide) () rfl (by omega)
theorem hd_yX12_reads : yX12_reads.cls ≠ "java/lang/invoke/MethodHandle" ∧ yX12_reads.cls ≠ "java/lang/invoke/VarHandle" ∧ (parseMethodDescriptor yX12_reads.desc).map (fun d => d.parameters.length) = some 2 := by decide +kernel
theorem dX12_law_0 : decode cX12_law 0 = .ok (.aload_n 0, 1) := by decide +kernel
theorem dX12_law_1 : decode cX12_law 1 = .ok (.iconst 0, 1) := by decide +kernel
theorem dX12_law_2 : decode cX12_law 2 = .ok (.iload_n 1, 1) := by decide +kernel
theorem dX12_law_3 : decode cX12_law 3 = .ok (.invokevirtual 237, 3) := by decide +kernel
theorem dX12_law_6 : decode cX12_law 6 = .ok (.ireturn, 1) := by decide +kernel
set_option maxHeartbeats 4000000 in
set_option maxRecDepth 100000 in
theorem g_law (l : Launch) (D : va_G) (cy : Nat → ClassId) (ad : Nat → Nat) (V J : Nat → Nat → Int) (Rr : Nat → Nat → Nat) (hV : VR V) (hJ : VJ J) (x1 : Int) (hx1 : R32 x1) (h76 : V 1 76 = 0) (h78 : V 1 78 = 0) (htp : V 0 4 = 0)  : xMi l D (xTY cy) yX12_law cX12_law 2 (some .int) 2 47 0 0 [.ref (ad 0), vI x1] (MW cy ad V J Rr) (fun _ : Unit => MW cy ad V J Rr) (fun r _ => r = -1) := by
  refine xMi.mk (lv0 := [(0, .ref (ad 0)), (1, vI x1)]) (by decide) rfl (Nat.le_of_ble_eq_true rfl) (fun p e s m below meth c A C hr hnm hAe => ?_)
  have C : xC2 p s m _ meth c D A s.heap 2 cX12_law RX12 (xTY cy) := C
  refine x_aload_n C.1 dX12_law_0 0 rfl ?_
  refine x_iconst C.1 (n := 0) dX12_law_1 ?_
  refine x_iload_n C.1 dX12_law_2 1 rfl ?_
  refine x_callVi C (As := [vI 0, vI x1]) (rest := []) 0 (xw_at (N := 33) (i := 0) (by decide) rfl) vc_X12 (g_reads l D cy ad V J Rr hV hJ 0 x1 (by decide) hx1 h76 h78 htp) (l1 := []) (l2 := []) (List.append_nil _).symm (w2 := fun _ => MW cy ad V J Rr) (fun _ => List.append_nil _) rfl wm_yX12_reads wn_X12 wl_X12_237 wi_yX12_reads we_yX12_reads hd_yX12_reads rfl ⟨Nat.le_of_ble_eq_true rfl, Nat.le_of_ble_eq_true rfl⟩ (Nat.le_of_ble_eq_true rfl) ⟨Nat.le_of_ble_eq_true rfl, Nat.le_of_ble_eq_true rfl⟩ dX12_law_3 (fun r1 u1 hr1 h1 => ?_)
  obtain rfl := h1
  exact x_iret (S := Unit) (post := fun r _ => r = -1) (w1 := fun _ : Unit => MW cy ad V J Rr) (a := (-1)) C hr rfl dX12_law_6 (by decide) () rfl (by omega)
theorem dX12_rule_0 : decode cX12_rule 0 = .ok (.iload_n 1, 1) := by decide +kernel
theorem dX12_rule_1 : decode cX12_rule 1 = .ok (.iconst 0, 1) := by decide +kernel
theorem dX12_rule_2 : decode cX12_rule 2 = .ok (.iconst 3, 1) := by decide +kernel
theorem dX12_rule_3 : decode cX12_rule 3 = .ok (.invokestatic 126, 3) := by decide +kernel
theorem dX12_rule_6 : decode cX12_rule 6 = .ok (.ifCond .eq 14, 3) := by decide +kernel
theorem dX12_rule_9 : decode cX12_rule 9 = .ok (.aload_n 0, 1) := by decide +kernel
theorem dX12_rule_10 : decode cX12_rule 10 = .ok (.iload_n 1, 1) := by decide +kernel
theorem dX12_rule_11 : decode cX12_rule 11 = .ok (.iconst 1, 1) := by decide +kernel
theorem dX12_rule_12 : decode cX12_rule 12 = .ok (.iadd, 1) := by decide +kernel
theorem dX12_rule_13 : decode cX12_rule 13 = .ok (.iload_n 2, 1) := by decide +kernel
theorem dX12_rule_14 : decode cX12_rule 14 = .ok (.invokevirtual 237, 3) := by decide +kernel
theorem dX12_rule_17 : decode cX12_rule 17 = .ok (.goto 4, 3) := by decide +kernel
theorem dX12_rule_20 : decode cX12_rule 20 = .ok (.iconst (-1), 1) := by decide +kernel
theorem dX12_rule_21 : decode cX12_rule 21 = .ok (.ireturn, 1) := by decide +kernel
set_option maxHeartbeats 4000000 in
set_option maxRecDepth 100000 in
theorem g_rule (l : Launch) (D : va_G) (cy : Nat → ClassId) (ad : Nat → Nat) (V J : Nat → Nat → Int) (Rr : Nat → Nat → Nat) (hV : VR V) (hJ : VJ J) (x1 x2 : Int) (hx1 : R32 x1) (hx2 : R32 x2) (h76 : V 1 76 = 0) (h78 : V 1 78 = 0) (htp : V 0 4 = 0)  : xMi l D (xTY cy) yX12_rule cX12_rule 3 (some .int) 2 47 0 0 [.ref (ad 0), vI x1, vI x2] (MW cy ad V J Rr) (fun _ : Unit => MW cy ad V J Rr) (fun r _ => r = -1) := by
  refine xMi.mk (lv0 := [(0, .ref (ad 0)), (1, vI x1), (2, vI x2)]) (by decide) rfl (Nat.le_of_ble_eq_true rfl) (fun p e s m below meth c A C hr hnm hAe => ?_)
  have C : xC2 p s m _ meth c D A s.heap 3 cX12_rule RX12 (xTY cy) := C
  refine x_iload_n C.1 dX12_rule_0 1 rfl ?_
  refine x_iconst C.1 (n := 0) dX12_rule_1 ?_
  refine x_iconst C.1 (n := 3) dX12_rule_2 ?_
  refine x_callSi C (As := [vI x1, vI 0, vI 3]) (rest := []) (c_in l D cy x1 0 3 hx1 (by decide) (by decide)) (l1 := []) (l2 := _) rfl (w2 := fun _ => _) (fun _ => rfl) rfl wm_yX12_in wn_X12 wl_X12_126 wi_yX12_in hd_yX12_in rfl ⟨Nat.le_of_ble_eq_true rfl, Nat.le_of_ble_eq_true rfl⟩ (Nat.le_of_ble_eq_true rfl) ⟨Nat.le_of_ble_eq_true rfl, Nat.le_of_ble_eq_true rfl⟩ dX12_rule_3 (fun r1 u1 hr1 h1 => ?_)
  rcases h1 with ⟨rfl, t1, t1b⟩ | ⟨rfl, t1⟩
  · refine x_if_eq_f C.1 (tgt := 20) dX12_rule_6 (by decide) (by decide) (by decide) ?_
    refine x_aload_n C.1 dX12_rule_9 0 rfl ?_
    refine x_iload_n C.1 dX12_rule_10 1 rfl ?_
    refine x_iconst C.1 (n := 1) dX12_rule_11 ?_
    refine x_iadd C.1 (v := x1 + 1) rfl dX12_rule_12 ?_
    refine x_iload_n C.1 dX12_rule_13 2 rfl ?_
    refine x_callVi C (As := [vI (x1 + 1), vI x2]) (rest := []) 0 (xw_at (N := 33) (i := 0) (by decide) rfl) vc_X12 (g_reads l D cy ad V J Rr hV hJ (x1 + 1) x2 (by omega) hx2 h76 h78 htp) (l1 := []) (l2 := []) (List.append_nil _).symm (w2 := fun _ => MW cy ad V J Rr) (fun _ => List.append_nil _) rfl wm_yX12_reads wn_X12 wl_X12_237 wi_yX12_reads we_yX12_reads hd_yX12_reads rfl ⟨Nat.le_of_ble_eq_true rfl, Nat.le_of_ble_eq_true rfl⟩ (Nat.le_of_ble_eq_true rfl) ⟨Nat.le_of_ble_eq_true rfl, Nat.le_of_ble_eq_true rfl⟩ dX12_rule_14 (fun r2 u2 hr2 h2 => ?_)
    obtain rfl := h2
    refine x_goto C.1 (tgt := 21) dX12_rule_17 (by decide) ?_
    exact x_iret (S := Unit) (post := fun r _ => r = -1) (w1 := fun _ : Unit => MW cy ad V J Rr) (a := (-1)) C hr rfl dX12_rule_21 (by decide) () rfl (by omega)
  · refine x_if_eq_t C.1 (tgt := 20) dX12_rule_6 (by decide) (by decide) (by decide) ?_
    refine x_iconst C.1 (n := -1) dX12_rule_20 ?_
    exact x_iret (S := Unit) (post := fun r _ => r = -1) (w1 := fun _ : Unit => MW cy ad V J Rr) (a := (-1)) C hr rfl dX12_rule_21 (by decide) () rfl (by omega)
theorem hd_yX12_canGo : yX12_canGo.cls ≠ "java/lang/invoke/MethodHandle" ∧ yX12_canGo.cls ≠ "java/lang/invoke/VarHandle" ∧ (parseMethodDescriptor yX12_canGo.desc).map (fun d => d.parameters.length) = some 3 := by decide +kernel
theorem dX12_exactly_0 : decode cX12_exactly 0 = .ok (.aload_n 0, 1) := by decide +kernel
theorem dX12_exactly_1 : decode cX12_exactly 1 = .ok (.iload_n 1, 1) := by decide +kernel
theorem dX12_exactly_2 : decode cX12_exactly 2 = .ok (.iload_n 2, 1) := by decide +kernel
theorem dX12_exactly_3 : decode cX12_exactly 3 = .ok (.iload_n 3, 1) := by decide +kernel
theorem dX12_exactly_4 : decode cX12_exactly 4 = .ok (.invokevirtual 342, 3) := by decide +kernel
theorem dX12_exactly_7 : decode cX12_exactly 7 = .ok (.ifCond .eq 14, 3) := by decide +kernel
theorem dX12_exactly_21 : decode cX12_exactly 21 = .ok (.ldc2_w 345, 3) := by decide +kernel
theorem dX12_exactly_24 : decode cX12_exactly 24 = .ok (.lreturn, 1) := by decide +kernel
set_option maxHeartbeats 4000000 in
set_option maxRecDepth 100000 in
theorem g_exactly (l : Launch) (D : va_G) (cy : Nat → ClassId) (ad : Nat → Nat) (V J : Nat → Nat → Int) (Rr : Nat → Nat → Nat) (hV : VR V) (hJ : VJ J) (x1 x2 x3 x4 : Int) (hx1 : R32 x1) (hx2 : R32 x2) (hx3 : R32 x3) (hx4 : R32 x4) (h76 : V 1 76 = 0) (h78 : V 1 78 = 0) (htp : V 0 4 = 0)  : xMl l D (xTY cy) yX12_exactly cX12_exactly 8 (some .long) 4 86 0 0 [.ref (ad 0), vI x1, vI x2, vI x3, vI x4] (MW cy ad V J Rr) (fun _ : Unit => MW cy ad V J Rr) (fun r _ => r = -1) := by
  refine xMl.mk (lv0 := [(0, .ref (ad 0)), (1, vI x1), (2, vI x2), (3, vI x3), (4, vI x4)]) (by decide) rfl (Nat.le_of_ble_eq_true rfl) (fun p e s m below meth c A C hr hnm hAe => ?_)
  have C : xC2 p s m _ meth c D A s.heap 8 cX12_exactly RX12 (xTY cy) := C
  refine x_aload_n C.1 dX12_exactly_0 0 rfl ?_
  refine x_iload_n C.1 dX12_exactly_1 1 rfl ?_
  refine x_iload_n C.1 dX12_exactly_2 2 rfl ?_
  refine x_iload_n C.1 dX12_exactly_3 3 rfl ?_
  refine x_callVi C (As := [vI x1, vI x2, vI x3]) (rest := []) 0 (xw_at (N := 33) (i := 0) (by decide) rfl) vc_X12 (g_canGo l D cy ad V J Rr hV hJ x1 x2 x3 hx1 hx2 hx3 h76 h78 htp) (l1 := []) (l2 := []) (List.append_nil _).symm (w2 := fun _ => MW cy ad V J Rr) (fun _ => List.append_nil _) rfl wm_yX12_canGo wn_X12 wl_X12_342 wi_yX12_canGo we_yX12_canGo hd_yX12_canGo rfl ⟨Nat.le_of_ble_eq_true rfl, Nat.le_of_ble_eq_true rfl⟩ (Nat.le_of_ble_eq_true rfl) ⟨Nat.le_of_ble_eq_true rfl, Nat.le_of_ble_eq_true rfl⟩ dX12_exactly_4 (fun r1 u1 hr1 h1 => ?_)
  obtain rfl := h1
  refine x_if_eq_t C.1 (tgt := 21) dX12_exactly_7 (by decide) (by decide) (by decide) ?_
  refine x_ldc2 C.1 (n := -1) wq_X12_345 dX12_exactly_21 ?_
  exact x_lret (S := Unit) (post := fun r _ => r = -1) (w1 := fun _ : Unit => MW cy ad V J Rr) (a := (-1)) C hr rfl dX12_exactly_24 (by decide) () rfl (by omega)
theorem dX12_chance_0 : decode cX12_chance 0 = .ok (.aload_n 0, 1) := by decide +kernel
theorem dX12_chance_1 : decode cX12_chance 1 = .ok (.iload_n 1, 1) := by decide +kernel
theorem dX12_chance_2 : decode cX12_chance 2 = .ok (.iload_n 2, 1) := by decide +kernel
theorem dX12_chance_3 : decode cX12_chance 3 = .ok (.iload_n 3, 1) := by decide +kernel
theorem dX12_chance_4 : decode cX12_chance 4 = .ok (.invokevirtual 342, 3) := by decide +kernel
theorem dX12_chance_7 : decode cX12_chance 7 = .ok (.ifCond .eq 13, 3) := by decide +kernel
theorem dX12_chance_20 : decode cX12_chance 20 = .ok (.ldc2_w 345, 3) := by decide +kernel
theorem dX12_chance_23 : decode cX12_chance 23 = .ok (.lreturn, 1) := by decide +kernel
set_option maxHeartbeats 4000000 in
set_option maxRecDepth 100000 in
theorem g_chance (l : Launch) (D : va_G) (cy : Nat → ClassId) (ad : Nat → Nat) (V J : Nat → Nat → Int) (Rr : Nat → Nat → Nat) (hV : VR V) (hJ : VJ J) (x1 x2 x3 x4 : Int) (hx1 : R32 x1) (hx2 : R32 x2) (hx3 : R32 x3) (hx4 : R32 x4) (h76 : V 1 76 = 0) (h78 : V 1 78 = 0) (htp : V 0 4 = 0)  : xMl l D (xTY cy) yX12_chance cX12_chance 11 (some .long) 4 86 0 0 [.ref (ad 0), vI x1, vI x2, vI x3, vI x4] (MW cy ad V J Rr) (fun _ : Unit => MW cy ad V J Rr) (fun r _ => r = -1) := by
  refine xMl.mk (lv0 := [(0, .ref (ad 0)), (1, vI x1), (2, vI x2), (3, vI x3), (4, vI x4)]) (by decide) rfl (Nat.le_of_ble_eq_true rfl) (fun p e s m below meth c A C hr hnm hAe => ?_)
  have C : xC2 p s m _ meth c D A s.heap 11 cX12_chance RX12 (xTY cy) := C
  refine x_aload_n C.1 dX12_chance_0 0 rfl ?_
  refine x_iload_n C.1 dX12_chance_1 1 rfl ?_
  refine x_iload_n C.1 dX12_chance_2 2 rfl ?_
  refine x_iload_n C.1 dX12_chance_3 3 rfl ?_
  refine x_callVi C (As := [vI x1, vI x2, vI x3]) (rest := []) 0 (xw_at (N := 33) (i := 0) (by decide) rfl) vc_X12 (g_canGo l D cy ad V J Rr hV hJ x1 x2 x3 hx1 hx2 hx3 h76 h78 htp) (l1 := []) (l2 := []) (List.append_nil _).symm (w2 := fun _ => MW cy ad V J Rr) (fun _ => List.append_nil _) rfl wm_yX12_canGo wn_X12 wl_X12_342 wi_yX12_canGo we_yX12_canGo hd_yX12_canGo rfl ⟨Nat.le_of_ble_eq_true rfl, Nat.le_of_ble_eq_true rfl⟩ (Nat.le_of_ble_eq_true rfl) ⟨Nat.le_of_ble_eq_true rfl, Nat.le_of_ble_eq_true rfl⟩ dX12_chance_4 (fun r1 u1 hr1 h1 => ?_)
  obtain rfl := h1
  refine x_if_eq_t C.1 (tgt := 20) dX12_chance_7 (by decide) (by decide) (by decide) ?_
  refine x_ldc2 C.1 (n := -1) wq_X12_345 dX12_chance_20 ?_
  exact x_lret (S := Unit) (post := fun r _ => r = -1) (w1 := fun _ : Unit => MW cy ad V J Rr) (a := (-1)) C hr rfl dX12_chance_23 (by decide) () rfl (by omega)
theorem dX12_toAsk_0 : decode cX12_toAsk 0 = .ok (.aload_n 0, 1) := by decide +kernel
theorem dX12_toAsk_1 : decode cX12_toAsk 1 = .ok (.iload_n 1, 1) := by decide +kernel
theorem dX12_toAsk_2 : decode cX12_toAsk 2 = .ok (.iload_n 2, 1) := by decide +kernel
theorem dX12_toAsk_3 : decode cX12_toAsk 3 = .ok (.iload_n 3, 1) := by decide +kernel
theorem dX12_toAsk_4 : decode cX12_toAsk 4 = .ok (.invokevirtual 342, 3) := by decide +kernel
theorem dX12_toAsk_7 : decode cX12_toAsk 7 = .ok (.ifCond .eq 13, 3) := by decide +kernel
theorem dX12_toAsk_20 : decode cX12_toAsk 20 = .ok (.ldc2_w 345, 3) := by decide +kernel
theorem dX12_toAsk_23 : decode cX12_toAsk 23 = .ok (.lreturn, 1) := by decide +kernel
set_option maxHeartbeats 4000000 in
set_option maxRecDepth 100000 in
theorem g_toAsk (l : Launch) (D : va_G) (cy : Nat → ClassId) (ad : Nat → Nat) (V J : Nat → Nat → Int) (Rr : Nat → Nat → Nat) (hV : VR V) (hJ : VJ J) (x1 x2 x3 x4 : Int) (hx1 : R32 x1) (hx2 : R32 x2) (hx3 : R32 x3) (hx4 : R32 x4) (h76 : V 1 76 = 0) (h78 : V 1 78 = 0) (htp : V 0 4 = 0)  : xMl l D (xTY cy) yX12_toAsk cX12_toAsk 11 (some .long) 4 86 0 0 [.ref (ad 0), vI x1, vI x2, vI x3, vI x4] (MW cy ad V J Rr) (fun _ : Unit => MW cy ad V J Rr) (fun r _ => r = -1) := by
  refine xMl.mk (lv0 := [(0, .ref (ad 0)), (1, vI x1), (2, vI x2), (3, vI x3), (4, vI x4)]) (by decide) rfl (Nat.le_of_ble_eq_true rfl) (fun p e s m below meth c A C hr hnm hAe => ?_)
  have C : xC2 p s m _ meth c D A s.heap 11 cX12_toAsk RX12 (xTY cy) := C
  refine x_aload_n C.1 dX12_toAsk_0 0 rfl ?_
  refine x_iload_n C.1 dX12_toAsk_1 1 rfl ?_
  refine x_iload_n C.1 dX12_toAsk_2 2 rfl ?_
  refine x_iload_n C.1 dX12_toAsk_3 3 rfl ?_
  refine x_callVi C (As := [vI x1, vI x2, vI x3]) (rest := []) 0 (xw_at (N := 33) (i := 0) (by decide) rfl) vc_X12 (g_canGo l D cy ad V J Rr hV hJ x1 x2 x3 hx1 hx2 hx3 h76 h78 htp) (l1 := []) (l2 := []) (List.append_nil _).symm (w2 := fun _ => MW cy ad V J Rr) (fun _ => List.append_nil _) rfl wm_yX12_canGo wn_X12 wl_X12_342 wi_yX12_canGo we_yX12_canGo hd_yX12_canGo rfl ⟨Nat.le_of_ble_eq_true rfl, Nat.le_of_ble_eq_true rfl⟩ (Nat.le_of_ble_eq_true rfl) ⟨Nat.le_of_ble_eq_true rfl, Nat.le_of_ble_eq_true rfl⟩ dX12_toAsk_4 (fun r1 u1 hr1 h1 => ?_)
  obtain rfl := h1
  refine x_if_eq_t C.1 (tgt := 20) dX12_toAsk_7 (by decide) (by decide) (by decide) ?_
  refine x_ldc2 C.1 (n := -1) wq_X12_345 dX12_toAsk_20 ?_
  exact x_lret (S := Unit) (post := fun r _ => r = -1) (w1 := fun _ : Unit => MW cy ad V J Rr) (a := (-1)) C hr rfl dX12_toAsk_23 (by decide) () rfl (by omega)
theorem dX12_movesOut_0 : decode cX12_movesOut 0 = .ok (.aload_n 0, 1) := by decide +kernel
theorem dX12_movesOut_1 : decode cX12_movesOut 1 = .ok (.iload_n 1, 1) := by decide +kernel
theorem dX12_movesOut_2 : decode cX12_movesOut 2 = .ok (.iload_n 2, 1) := by decide +kernel
theorem dX12_movesOut_3 : decode cX12_movesOut 3 = .ok (.iload_n 3, 1) := by decide +kernel
theorem dX12_movesOut_4 : decode cX12_movesOut 4 = .ok (.invokevirtual 342, 3) := by decide +kernel
theorem dX12_movesOut_7 : decode cX12_movesOut 7 = .ok (.ifCond .eq 13, 3) := by decide +kernel
theorem dX12_movesOut_20 : decode cX12_movesOut 20 = .ok (.ldc2_w 345, 3) := by decide +kernel
theorem dX12_movesOut_23 : decode cX12_movesOut 23 = .ok (.lreturn, 1) := by decide +kernel
set_option maxHeartbeats 4000000 in
set_option maxRecDepth 100000 in
theorem g_movesOut (l : Launch) (D : va_G) (cy : Nat → ClassId) (ad : Nat → Nat) (V J : Nat → Nat → Int) (Rr : Nat → Nat → Nat) (hV : VR V) (hJ : VJ J) (x1 x2 x3 x4 : Int) (hx1 : R32 x1) (hx2 : R32 x2) (hx3 : R32 x3) (hx4 : R32 x4) (h76 : V 1 76 = 0) (h78 : V 1 78 = 0) (htp : V 0 4 = 0)  : xMl l D (xTY cy) yX12_movesOut cX12_movesOut 11 (some .long) 4 86 0 0 [.ref (ad 0), vI x1, vI x2, vI x3, vI x4] (MW cy ad V J Rr) (fun _ : Unit => MW cy ad V J Rr) (fun r _ => r = -1) := by
  refine xMl.mk (lv0 := [(0, .ref (ad 0)), (1, vI x1), (2, vI x2), (3, vI x3), (4, vI x4)]) (by decide) rfl (Nat.le_of_ble_eq_true rfl) (fun p e s m below meth c A C hr hnm hAe => ?_)
  have C : xC2 p s m _ meth c D A s.heap 11 cX12_movesOut RX12 (xTY cy) := C
  refine x_aload_n C.1 dX12_movesOut_0 0 rfl ?_
  refine x_iload_n C.1 dX12_movesOut_1 1 rfl ?_
  refine x_iload_n C.1 dX12_movesOut_2 2 rfl ?_
  refine x_iload_n C.1 dX12_movesOut_3 3 rfl ?_
  refine x_callVi C (As := [vI x1, vI x2, vI x3]) (rest := []) 0 (xw_at (N := 33) (i := 0) (by decide) rfl) vc_X12 (g_canGo l D cy ad V J Rr hV hJ x1 x2 x3 hx1 hx2 hx3 h76 h78 htp) (l1 := []) (l2 := []) (List.append_nil _).symm (w2 := fun _ => MW cy ad V J Rr) (fun _ => List.append_nil _) rfl wm_yX12_canGo wn_X12 wl_X12_342 wi_yX12_canGo we_yX12_canGo hd_yX12_canGo rfl ⟨Nat.le_of_ble_eq_true rfl, Nat.le_of_ble_eq_true rfl⟩ (Nat.le_of_ble_eq_true rfl) ⟨Nat.le_of_ble_eq_true rfl, Nat.le_of_ble_eq_true rfl⟩ dX12_movesOut_4 (fun r1 u1 hr1 h1 => ?_)
  obtain rfl := h1
  refine x_if_eq_t C.1 (tgt := 20) dX12_movesOut_7 (by decide) (by decide) (by decide) ?_
  refine x_ldc2 C.1 (n := -1) wq_X12_345 dX12_movesOut_20 ?_
  exact x_lret (S := Unit) (post := fun r _ => r = -1) (w1 := fun _ : Unit => MW cy ad V J Rr) (a := (-1)) C hr rfl dX12_movesOut_23 (by decide) () rfl (by omega)
theorem dX12_ruleFor_0 : decode cX12_ruleFor 0 = .ok (.aload_n 0, 1) := by decide +kernel
theorem dX12_ruleFor_1 : decode cX12_ruleFor 1 = .ok (.iload_n 1, 1) := by decide +kernel
theorem dX12_ruleFor_2 : decode cX12_ruleFor 2 = .ok (.iload_n 2, 1) := by decide +kernel
theorem dX12_ruleFor_3 : decode cX12_ruleFor 3 = .ok (.iload_n 3, 1) := by decide +kernel
theorem dX12_ruleFor_4 : decode cX12_ruleFor 4 = .ok (.invokevirtual 342, 3) := by decide +kernel
theorem dX12_ruleFor_7 : decode cX12_ruleFor 7 = .ok (.ifCond .eq 24, 3) := by decide +kernel
theorem dX12_ruleFor_31 : decode cX12_ruleFor 31 = .ok (.ldc2_w 345, 3) := by decide +kernel
theorem dX12_ruleFor_34 : decode cX12_ruleFor 34 = .ok (.lreturn, 1) := by decide +kernel
set_option maxHeartbeats 4000000 in
set_option maxRecDepth 100000 in
theorem g_ruleFor (l : Launch) (D : va_G) (cy : Nat → ClassId) (ad : Nat → Nat) (V J : Nat → Nat → Int) (Rr : Nat → Nat → Nat) (hV : VR V) (hJ : VJ J) (x1 x2 x3 x4 x5 : Int) (hx1 : R32 x1) (hx2 : R32 x2) (hx3 : R32 x3) (hx4 : R32 x4) (hx5 : R32 x5) (h76 : V 1 76 = 0) (h78 : V 1 78 = 0) (htp : V 0 4 = 0)  : xMl l D (xTY cy) yX12_ruleFor cX12_ruleFor 12 (some .long) 4 86 0 0 [.ref (ad 0), vI x1, vI x2, vI x3, vI x4, vI x5] (MW cy ad V J Rr) (fun _ : Unit => MW cy ad V J Rr) (fun r _ => r = -1) := by
  refine xMl.mk (lv0 := [(0, .ref (ad 0)), (1, vI x1), (2, vI x2), (3, vI x3), (4, vI x4), (5, vI x5)]) (by decide) rfl (Nat.le_of_ble_eq_true rfl) (fun p e s m below meth c A C hr hnm hAe => ?_)
  have C : xC2 p s m _ meth c D A s.heap 12 cX12_ruleFor RX12 (xTY cy) := C
  refine x_aload_n C.1 dX12_ruleFor_0 0 rfl ?_
  refine x_iload_n C.1 dX12_ruleFor_1 1 rfl ?_
  refine x_iload_n C.1 dX12_ruleFor_2 2 rfl ?_
  refine x_iload_n C.1 dX12_ruleFor_3 3 rfl ?_
  refine x_callVi C (As := [vI x1, vI x2, vI x3]) (rest := []) 0 (xw_at (N := 33) (i := 0) (by decide) rfl) vc_X12 (g_canGo l D cy ad V J Rr hV hJ x1 x2 x3 hx1 hx2 hx3 h76 h78 htp) (l1 := []) (l2 := []) (List.append_nil _).symm (w2 := fun _ => MW cy ad V J Rr) (fun _ => List.append_nil _) rfl wm_yX12_canGo wn_X12 wl_X12_342 wi_yX12_canGo we_yX12_canGo hd_yX12_canGo rfl ⟨Nat.le_of_ble_eq_true rfl, Nat.le_of_ble_eq_true rfl⟩ (Nat.le_of_ble_eq_true rfl) ⟨Nat.le_of_ble_eq_true rfl, Nat.le_of_ble_eq_true rfl⟩ dX12_ruleFor_4 (fun r1 u1 hr1 h1 => ?_)
  obtain rfl := h1
  refine x_if_eq_t C.1 (tgt := 31) dX12_ruleFor_7 (by decide) (by decide) (by decide) ?_
  refine x_ldc2 C.1 (n := -1) wq_X12_345 dX12_ruleFor_31 ?_
  exact x_lret (S := Unit) (post := fun r _ => r = -1) (w1 := fun _ : Unit => MW cy ad V J Rr) (a := (-1)) C hr rfl dX12_ruleFor_34 (by decide) () rfl (by omega)
theorem dX12_few_0 : decode cX12_few 0 = .ok (.aload_n 0, 1) := by decide +kernel
theorem dX12_few_1 : decode cX12_few 1 = .ok (.iload_n 1, 1) := by decide +kernel
theorem dX12_few_2 : decode cX12_few 2 = .ok (.iload_n 2, 1) := by decide +kernel
theorem dX12_few_3 : decode cX12_few 3 = .ok (.iload_n 3, 1) := by decide +kernel
theorem dX12_few_4 : decode cX12_few 4 = .ok (.invokevirtual 342, 3) := by decide +kernel
theorem dX12_few_7 : decode cX12_few 7 = .ok (.ifCond .eq 14, 3) := by decide +kernel
theorem dX12_few_21 : decode cX12_few 21 = .ok (.iconst (-1), 1) := by decide +kernel
theorem dX12_few_22 : decode cX12_few 22 = .ok (.ireturn, 1) := by decide +kernel
set_option maxHeartbeats 4000000 in
set_option maxRecDepth 100000 in
theorem g_few (l : Launch) (D : va_G) (cy : Nat → ClassId) (ad : Nat → Nat) (V J : Nat → Nat → Int) (Rr : Nat → Nat → Nat) (hV : VR V) (hJ : VJ J) (x1 x2 x3 x4 : Int) (hx1 : R32 x1) (hx2 : R32 x2) (hx3 : R32 x3) (hx4 : R32 x4) (h76 : V 1 76 = 0) (h78 : V 1 78 = 0) (htp : V 0 4 = 0)  : xMi l D (xTY cy) yX12_few cX12_few 8 (some .int) 4 86 0 0 [.ref (ad 0), vI x1, vI x2, vI x3, vI x4] (MW cy ad V J Rr) (fun _ : Unit => MW cy ad V J Rr) (fun r _ => r = -1) := by
  refine xMi.mk (lv0 := [(0, .ref (ad 0)), (1, vI x1), (2, vI x2), (3, vI x3), (4, vI x4)]) (by decide) rfl (Nat.le_of_ble_eq_true rfl) (fun p e s m below meth c A C hr hnm hAe => ?_)
  have C : xC2 p s m _ meth c D A s.heap 8 cX12_few RX12 (xTY cy) := C
  refine x_aload_n C.1 dX12_few_0 0 rfl ?_
  refine x_iload_n C.1 dX12_few_1 1 rfl ?_
  refine x_iload_n C.1 dX12_few_2 2 rfl ?_
  refine x_iload_n C.1 dX12_few_3 3 rfl ?_
  refine x_callVi C (As := [vI x1, vI x2, vI x3]) (rest := []) 0 (xw_at (N := 33) (i := 0) (by decide) rfl) vc_X12 (g_canGo l D cy ad V J Rr hV hJ x1 x2 x3 hx1 hx2 hx3 h76 h78 htp) (l1 := []) (l2 := []) (List.append_nil _).symm (w2 := fun _ => MW cy ad V J Rr) (fun _ => List.append_nil _) rfl wm_yX12_canGo wn_X12 wl_X12_342 wi_yX12_canGo we_yX12_canGo hd_yX12_canGo rfl ⟨Nat.le_of_ble_eq_true rfl, Nat.le_of_ble_eq_true rfl⟩ (Nat.le_of_ble_eq_true rfl) ⟨Nat.le_of_ble_eq_true rfl, Nat.le_of_ble_eq_true rfl⟩ dX12_few_4 (fun r1 u1 hr1 h1 => ?_)
  obtain rfl := h1
  refine x_if_eq_t C.1 (tgt := 21) dX12_few_7 (by decide) (by decide) (by decide) ?_
  refine x_iconst C.1 (n := -1) dX12_few_21 ?_
  exact x_iret (S := Unit) (post := fun r _ => r = -1) (w1 := fun _ : Unit => MW cy ad V J Rr) (a := (-1)) C hr rfl dX12_few_22 (by decide) () rfl (by omega)
theorem dX12_pot_0 : decode cX12_pot 0 = .ok (.aload_n 0, 1) := by decide +kernel
theorem dX12_pot_1 : decode cX12_pot 1 = .ok (.iload_n 1, 1) := by decide +kernel
theorem dX12_pot_2 : decode cX12_pot 2 = .ok (.iload_n 2, 1) := by decide +kernel
theorem dX12_pot_3 : decode cX12_pot 3 = .ok (.iload_n 3, 1) := by decide +kernel
theorem dX12_pot_4 : decode cX12_pot 4 = .ok (.invokevirtual 342, 3) := by decide +kernel
theorem dX12_pot_7 : decode cX12_pot 7 = .ok (.ifCond .eq 14, 3) := by decide +kernel
theorem dX12_pot_21 : decode cX12_pot 21 = .ok (.ldc2_w 351, 3) := by decide +kernel
theorem dX12_pot_24 : decode cX12_pot 24 = .ok (.lreturn, 1) := by decide +kernel
set_option maxHeartbeats 4000000 in
set_option maxRecDepth 100000 in
theorem g_pot (l : Launch) (D : va_G) (cy : Nat → ClassId) (ad : Nat → Nat) (V J : Nat → Nat → Int) (Rr : Nat → Nat → Nat) (hV : VR V) (hJ : VJ J) (x1 x2 x3 x4 : Int) (hx1 : R32 x1) (hx2 : R32 x2) (hx3 : R32 x3) (hx4 : R32 x4) (h76 : V 1 76 = 0) (h78 : V 1 78 = 0) (htp : V 0 4 = 0)  : xMl l D (xTY cy) yX12_pot cX12_pot 11 (some .long) 4 86 0 0 [.ref (ad 0), vI x1, vI x2, vI x3, vI x4] (MW cy ad V J Rr) (fun _ : Unit => MW cy ad V J Rr) (fun r _ => r = -1000000000000) := by
  refine xMl.mk (lv0 := [(0, .ref (ad 0)), (1, vI x1), (2, vI x2), (3, vI x3), (4, vI x4)]) (by decide) rfl (Nat.le_of_ble_eq_true rfl) (fun p e s m below meth c A C hr hnm hAe => ?_)
  have C : xC2 p s m _ meth c D A s.heap 11 cX12_pot RX12 (xTY cy) := C
  refine x_aload_n C.1 dX12_pot_0 0 rfl ?_
  refine x_iload_n C.1 dX12_pot_1 1 rfl ?_
  refine x_iload_n C.1 dX12_pot_2 2 rfl ?_
  refine x_iload_n C.1 dX12_pot_3 3 rfl ?_
  refine x_callVi C (As := [vI x1, vI x2, vI x3]) (rest := []) 0 (xw_at (N := 33) (i := 0) (by decide) rfl) vc_X12 (g_canGo l D cy ad V J Rr hV hJ x1 x2 x3 hx1 hx2 hx3 h76 h78 htp) (l1 := []) (l2 := []) (List.append_nil _).symm (w2 := fun _ => MW cy ad V J Rr) (fun _ => List.append_nil _) rfl wm_yX12_canGo wn_X12 wl_X12_342 wi_yX12_canGo we_yX12_canGo hd_yX12_canGo rfl ⟨Nat.le_of_ble_eq_true rfl, Nat.le_of_ble_eq_true rfl⟩ (Nat.le_of_ble_eq_true rfl) ⟨Nat.le_of_ble_eq_true rfl, Nat.le_of_ble_eq_true rfl⟩ dX12_pot_4 (fun r1 u1 hr1 h1 => ?_)
  obtain rfl := h1
  refine x_if_eq_t C.1 (tgt := 21) dX12_pot_7 (by decide) (by decide) (by decide) ?_
  refine x_ldc2 C.1 (n := -1000000000000) wq_X12_351 dX12_pot_21 ?_
  exact x_lret (S := Unit) (post := fun r _ => r = -1000000000000) (w1 := fun _ : Unit => MW cy ad V J Rr) (a := (-1000000000000)) C hr rfl dX12_pot_24 (by decide) () rfl (by omega)
theorem dX12_comes_0 : decode cX12_comes 0 = .ok (.iload_n 1, 1) := by decide +kernel
theorem dX12_comes_1 : decode cX12_comes 1 = .ok (.iconst 1, 1) := by decide +kernel
theorem dX12_comes_2 : decode cX12_comes 2 = .ok (.bipush 12, 2) := by decide +kernel
theorem dX12_comes_4 : decode cX12_comes 4 = .ok (.invokestatic 126, 3) := by decide +kernel
theorem dX12_comes_7 : decode cX12_comes 7 = .ok (.ifCond .eq 30, 3) := by decide +kernel
theorem dX12_comes_10 : decode cX12_comes 10 = .ok (.iload_n 2, 1) := by decide +kernel
theorem dX12_comes_11 : decode cX12_comes 11 = .ok (.iconst 0, 1) := by decide +kernel
theorem dX12_comes_12 : decode cX12_comes 12 = .ok (.bipush 12, 2) := by decide +kernel
theorem dX12_comes_14 : decode cX12_comes 14 = .ok (.invokestatic 126, 3) := by decide +kernel
theorem dX12_comes_17 : decode cX12_comes 17 = .ok (.ifCond .eq 20, 3) := by decide +kernel
theorem dX12_comes_20 : decode cX12_comes 20 = .ok (.iload_n 3, 1) := by decide +kernel
theorem dX12_comes_21 : decode cX12_comes 21 = .ok (.iconst 0, 1) := by decide +kernel
theorem dX12_comes_22 : decode cX12_comes 22 = .ok (.iconst 1, 1) := by decide +kernel
theorem dX12_comes_23 : decode cX12_comes 23 = .ok (.invokestatic 126, 3) := by decide +kernel
theorem dX12_comes_26 : decode cX12_comes 26 = .ok (.ifCond .eq 11, 3) := by decide +kernel
theorem dX12_comes_29 : decode cX12_comes 29 = .ok (.iload_n 1, 1) := by decide +kernel
theorem dX12_comes_30 : decode cX12_comes 30 = .ok (.aload_n 0, 1) := by decide +kernel
theorem dX12_comes_31 : decode cX12_comes 31 = .ok (.getfield 137, 3) := by decide +kernel
theorem dX12_comes_34 : decode cX12_comes 34 = .ok (.if_icmp .le 7, 3) := by decide +kernel
theorem dX12_comes_37 : decode cX12_comes 37 = .ok (.ldc2_w 345, 3) := by decide +kernel
theorem dX12_comes_40 : decode cX12_comes 40 = .ok (.lreturn, 1) := by decide +kernel
set_option maxHeartbeats 4000000 in
set_option maxRecDepth 100000 in
theorem g_comes (l : Launch) (D : va_G) (cy : Nat → ClassId) (ad : Nat → Nat) (V J : Nat → Nat → Int) (Rr : Nat → Nat → Nat) (hV : VR V) (hJ : VJ J) (x1 x2 x3 : Int) (hx1 : R32 x1) (hx2 : R32 x2) (hx3 : R32 x3) (h76 : V 1 76 = 0) (h78 : V 1 78 = 0) (htp : V 0 4 = 0)  : xMl l D (xTY cy) yX12_comes cX12_comes 4 (some .long) 1 22 0 0 [.ref (ad 0), vI x1, vI x2, vI x3] (MW cy ad V J Rr) (fun _ : Unit => MW cy ad V J Rr) (fun r _ => r = -1) := by
  refine xMl.mk (lv0 := [(0, .ref (ad 0)), (1, vI x1), (2, vI x2), (3, vI x3)]) (by decide) rfl (Nat.le_of_ble_eq_true rfl) (fun p e s m below meth c A C hr hnm hAe => ?_)
  have C : xC2 p s m _ meth c D A s.heap 4 cX12_comes RX12 (xTY cy) := C
  refine x_iload_n C.1 dX12_comes_0 1 rfl ?_
  refine x_iconst C.1 (n := 1) dX12_comes_1 ?_
  refine x_bipush C.1 (n := 12) dX12_comes_2 ?_
  refine x_callSi C (As := [vI x1, vI 1, vI 12]) (rest := []) (c_in l D cy x1 1 12 hx1 (by decide) (by decide)) (l1 := []) (l2 := _) rfl (w2 := fun _ => _) (fun _ => rfl) rfl wm_yX12_in wn_X12 wl_X12_126 wi_yX12_in hd_yX12_in rfl ⟨Nat.le_of_ble_eq_true rfl, Nat.le_of_ble_eq_true rfl⟩ (Nat.le_of_ble_eq_true rfl) ⟨Nat.le_of_ble_eq_true rfl, Nat.le_of_ble_eq_true rfl⟩ dX12_comes_4 (fun r1 u1 hr1 h1 => ?_)
  rcases h1 with ⟨rfl, t1, t1b⟩ | ⟨rfl, t1⟩
  · refine x_if_eq_f C.1 (tgt := 37) dX12_comes_7 (by decide) (by decide) (by decide) ?_
    refine x_iload_n C.1 dX12_comes_10 2 rfl ?_
    refine x_iconst C.1 (n := 0) dX12_comes_11 ?_
    refine x_bipush C.1 (n := 12) dX12_comes_12 ?_
    refine x_callSi C (As := [vI x2, vI 0, vI 12]) (rest := []) (c_in l D cy x2 0 12 hx2 (by decide) (by decide)) (l1 := []) (l2 := _) rfl (w2 := fun _ => _) (fun _ => rfl) rfl wm_yX12_in wn_X12 wl_X12_126 wi_yX12_in hd_yX12_in rfl ⟨Nat.le_of_ble_eq_true rfl, Nat.le_of_ble_eq_true rfl⟩ (Nat.le_of_ble_eq_true rfl) ⟨Nat.le_of_ble_eq_true rfl, Nat.le_of_ble_eq_true rfl⟩ dX12_comes_14 (fun r2 u2 hr2 h2 => ?_)
    rcases h2 with ⟨rfl, t2, t2b⟩ | ⟨rfl, t2⟩
    · refine x_if_eq_f C.1 (tgt := 37) dX12_comes_17 (by decide) (by decide) (by decide) ?_
      refine x_iload_n C.1 dX12_comes_20 3 rfl ?_
      refine x_iconst C.1 (n := 0) dX12_comes_21 ?_
      refine x_iconst C.1 (n := 1) dX12_comes_22 ?_
      refine x_callSi C (As := [vI x3, vI 0, vI 1]) (rest := []) (c_in l D cy x3 0 1 hx3 (by decide) (by decide)) (l1 := []) (l2 := _) rfl (w2 := fun _ => _) (fun _ => rfl) rfl wm_yX12_in wn_X12 wl_X12_126 wi_yX12_in hd_yX12_in rfl ⟨Nat.le_of_ble_eq_true rfl, Nat.le_of_ble_eq_true rfl⟩ (Nat.le_of_ble_eq_true rfl) ⟨Nat.le_of_ble_eq_true rfl, Nat.le_of_ble_eq_true rfl⟩ dX12_comes_23 (fun r3 u3 hr3 h3 => ?_)
      rcases h3 with ⟨rfl, t3, t3b⟩ | ⟨rfl, t3⟩
      · refine x_if_eq_f C.1 (tgt := 37) dX12_comes_26 (by decide) (by decide) (by decide) ?_
        refine x_iload_n C.1 dX12_comes_29 1 rfl ?_
        refine x_aload_n C.1 dX12_comes_30 0 rfl ?_
        refine x_getI C (N := 33) (i := 0) (by decide) rfl vc_X12 wx_X12 4 (by decide) wf_X12_137 rfl dX12_comes_31 (a := 0) htp ?_
        refine x_icmp_le_f C.1 (tgt := 41) dX12_comes_34 (by decide) hx1 (by decide) (by omega) ?_
        refine x_ldc2 C.1 (n := -1) wq_X12_345 dX12_comes_37 ?_
        exact x_lret (S := Unit) (post := fun r _ => r = -1) (w1 := fun _ : Unit => MW cy ad V J Rr) (a := (-1)) C hr rfl dX12_comes_40 (by decide) () rfl (by omega)
      · refine x_if_eq_t C.1 (tgt := 37) dX12_comes_26 (by decide) (by decide) (by decide) ?_
        refine x_ldc2 C.1 (n := -1) wq_X12_345 dX12_comes_37 ?_
        exact x_lret (S := Unit) (post := fun r _ => r = -1) (w1 := fun _ : Unit => MW cy ad V J Rr) (a := (-1)) C hr rfl dX12_comes_40 (by decide) () rfl (by omega)
    · refine x_if_eq_t C.1 (tgt := 37) dX12_comes_17 (by decide) (by decide) (by decide) ?_
      refine x_ldc2 C.1 (n := -1) wq_X12_345 dX12_comes_37 ?_
      exact x_lret (S := Unit) (post := fun r _ => r = -1) (w1 := fun _ : Unit => MW cy ad V J Rr) (a := (-1)) C hr rfl dX12_comes_40 (by decide) () rfl (by omega)
  · refine x_if_eq_t C.1 (tgt := 37) dX12_comes_7 (by decide) (by decide) (by decide) ?_
    refine x_ldc2 C.1 (n := -1) wq_X12_345 dX12_comes_37 ?_
    exact x_lret (S := Unit) (post := fun r _ => r = -1) (w1 := fun _ : Unit => MW cy ad V J Rr) (a := (-1)) C hr rfl dX12_comes_40 (by decide) () rfl (by omega)
theorem dX12_can_0 : decode cX12_can 0 = .ok (.iload_n 1, 1) := by decide +kernel
theorem dX12_can_1 : decode cX12_can 1 = .ok (.iconst 1, 1) := by decide +kernel
theorem dX12_can_2 : decode cX12_can 2 = .ok (.bipush 6, 2) := by decide +kernel
theorem dX12_can_4 : decode cX12_can 4 = .ok (.invokestatic 126, 3) := by decide +kernel
theorem dX12_can_7 : decode cX12_can 7 = .ok (.ifCond .eq 41, 3) := by decide +kernel
theorem dX12_can_10 : decode cX12_can 10 = .ok (.iload_n 2, 1) := by decide +kernel
theorem dX12_can_11 : decode cX12_can 11 = .ok (.iconst 1, 1) := by decide +kernel
theorem dX12_can_12 : decode cX12_can 12 = .ok (.bipush 9, 2) := by decide +kernel
theorem dX12_can_14 : decode cX12_can 14 = .ok (.invokestatic 126, 3) := by decide +kernel
theorem dX12_can_17 : decode cX12_can 17 = .ok (.ifCond .eq 31, 3) := by decide +kernel
theorem dX12_can_20 : decode cX12_can 20 = .ok (.iload_n 3, 1) := by decide +kernel
theorem dX12_can_21 : decode cX12_can 21 = .ok (.iconst 0, 1) := by decide +kernel
theorem dX12_can_22 : decode cX12_can 22 = .ok (.bipush 60, 2) := by decide +kernel
theorem dX12_can_24 : decode cX12_can 24 = .ok (.invokestatic 126, 3) := by decide +kernel
theorem dX12_can_27 : decode cX12_can 27 = .ok (.ifCond .eq 21, 3) := by decide +kernel
theorem dX12_can_30 : decode cX12_can 30 = .ok (.iload 4, 2) := by decide +kernel
theorem dX12_can_32 : decode cX12_can 32 = .ok (.iconst 0, 1) := by decide +kernel
theorem dX12_can_33 : decode cX12_can 33 = .ok (.iconst 1, 1) := by decide +kernel
theorem dX12_can_34 : decode cX12_can 34 = .ok (.invokestatic 126, 3) := by decide +kernel
theorem dX12_can_37 : decode cX12_can 37 = .ok (.ifCond .eq 11, 3) := by decide +kernel
theorem dX12_can_40 : decode cX12_can 40 = .ok (.iload_n 1, 1) := by decide +kernel
theorem dX12_can_41 : decode cX12_can 41 = .ok (.aload_n 0, 1) := by decide +kernel
theorem dX12_can_42 : decode cX12_can 42 = .ok (.getfield 137, 3) := by decide +kernel
theorem dX12_can_45 : decode cX12_can 45 = .ok (.if_icmp .le 7, 3) := by decide +kernel
theorem dX12_can_48 : decode cX12_can 48 = .ok (.ldc2_w 345, 3) := by decide +kernel
theorem dX12_can_51 : decode cX12_can 51 = .ok (.lreturn, 1) := by decide +kernel
set_option maxHeartbeats 4000000 in
set_option maxRecDepth 100000 in
theorem g_can (l : Launch) (D : va_G) (cy : Nat → ClassId) (ad : Nat → Nat) (V J : Nat → Nat → Int) (Rr : Nat → Nat → Nat) (hV : VR V) (hJ : VJ J) (x1 x2 x3 x4 : Int) (hx1 : R32 x1) (hx2 : R32 x2) (hx3 : R32 x3) (hx4 : R32 x4) (h76 : V 1 76 = 0) (h78 : V 1 78 = 0) (htp : V 0 4 = 0)  : xMl l D (xTY cy) yX12_can cX12_can 8 (some .long) 1 22 0 0 [.ref (ad 0), vI x1, vI x2, vI x3, vI x4] (MW cy ad V J Rr) (fun _ : Unit => MW cy ad V J Rr) (fun r _ => r = -1) := by
  refine xMl.mk (lv0 := [(0, .ref (ad 0)), (1, vI x1), (2, vI x2), (3, vI x3), (4, vI x4)]) (by decide) rfl (Nat.le_of_ble_eq_true rfl) (fun p e s m below meth c A C hr hnm hAe => ?_)
  have C : xC2 p s m _ meth c D A s.heap 8 cX12_can RX12 (xTY cy) := C
  refine x_iload_n C.1 dX12_can_0 1 rfl ?_
  refine x_iconst C.1 (n := 1) dX12_can_1 ?_
  refine x_bipush C.1 (n := 6) dX12_can_2 ?_
  refine x_callSi C (As := [vI x1, vI 1, vI 6]) (rest := []) (c_in l D cy x1 1 6 hx1 (by decide) (by decide)) (l1 := []) (l2 := _) rfl (w2 := fun _ => _) (fun _ => rfl) rfl wm_yX12_in wn_X12 wl_X12_126 wi_yX12_in hd_yX12_in rfl ⟨Nat.le_of_ble_eq_true rfl, Nat.le_of_ble_eq_true rfl⟩ (Nat.le_of_ble_eq_true rfl) ⟨Nat.le_of_ble_eq_true rfl, Nat.le_of_ble_eq_true rfl⟩ dX12_can_4 (fun r1 u1 hr1 h1 => ?_)
  rcases h1 with ⟨rfl, t1, t1b⟩ | ⟨rfl, t1⟩
  · refine x_if_eq_f C.1 (tgt := 48) dX12_can_7 (by decide) (by decide) (by decide) ?_
    refine x_iload_n C.1 dX12_can_10 2 rfl ?_
    refine x_iconst C.1 (n := 1) dX12_can_11 ?_
    refine x_bipush C.1 (n := 9) dX12_can_12 ?_
    refine x_callSi C (As := [vI x2, vI 1, vI 9]) (rest := []) (c_in l D cy x2 1 9 hx2 (by decide) (by decide)) (l1 := []) (l2 := _) rfl (w2 := fun _ => _) (fun _ => rfl) rfl wm_yX12_in wn_X12 wl_X12_126 wi_yX12_in hd_yX12_in rfl ⟨Nat.le_of_ble_eq_true rfl, Nat.le_of_ble_eq_true rfl⟩ (Nat.le_of_ble_eq_true rfl) ⟨Nat.le_of_ble_eq_true rfl, Nat.le_of_ble_eq_true rfl⟩ dX12_can_14 (fun r2 u2 hr2 h2 => ?_)
    rcases h2 with ⟨rfl, t2, t2b⟩ | ⟨rfl, t2⟩
    · refine x_if_eq_f C.1 (tgt := 48) dX12_can_17 (by decide) (by decide) (by decide) ?_
      refine x_iload_n C.1 dX12_can_20 3 rfl ?_
      refine x_iconst C.1 (n := 0) dX12_can_21 ?_
      refine x_bipush C.1 (n := 60) dX12_can_22 ?_
      refine x_callSi C (As := [vI x3, vI 0, vI 60]) (rest := []) (c_in l D cy x3 0 60 hx3 (by decide) (by decide)) (l1 := []) (l2 := _) rfl (w2 := fun _ => _) (fun _ => rfl) rfl wm_yX12_in wn_X12 wl_X12_126 wi_yX12_in hd_yX12_in rfl ⟨Nat.le_of_ble_eq_true rfl, Nat.le_of_ble_eq_true rfl⟩ (Nat.le_of_ble_eq_true rfl) ⟨Nat.le_of_ble_eq_true rfl, Nat.le_of_ble_eq_true rfl⟩ dX12_can_24 (fun r3 u3 hr3 h3 => ?_)
      rcases h3 with ⟨rfl, t3, t3b⟩ | ⟨rfl, t3⟩
      · refine x_if_eq_f C.1 (tgt := 48) dX12_can_27 (by decide) (by decide) (by decide) ?_
        refine x_iload C.1 dX12_can_30 4 rfl ?_
        refine x_iconst C.1 (n := 0) dX12_can_32 ?_
        refine x_iconst C.1 (n := 1) dX12_can_33 ?_
        refine x_callSi C (As := [vI x4, vI 0, vI 1]) (rest := []) (c_in l D cy x4 0 1 hx4 (by decide) (by decide)) (l1 := []) (l2 := _) rfl (w2 := fun _ => _) (fun _ => rfl) rfl wm_yX12_in wn_X12 wl_X12_126 wi_yX12_in hd_yX12_in rfl ⟨Nat.le_of_ble_eq_true rfl, Nat.le_of_ble_eq_true rfl⟩ (Nat.le_of_ble_eq_true rfl) ⟨Nat.le_of_ble_eq_true rfl, Nat.le_of_ble_eq_true rfl⟩ dX12_can_34 (fun r4 u4 hr4 h4 => ?_)
        rcases h4 with ⟨rfl, t4, t4b⟩ | ⟨rfl, t4⟩
        · refine x_if_eq_f C.1 (tgt := 48) dX12_can_37 (by decide) (by decide) (by decide) ?_
          refine x_iload_n C.1 dX12_can_40 1 rfl ?_
          refine x_aload_n C.1 dX12_can_41 0 rfl ?_
          refine x_getI C (N := 33) (i := 0) (by decide) rfl vc_X12 wx_X12 4 (by decide) wf_X12_137 rfl dX12_can_42 (a := 0) htp ?_
          refine x_icmp_le_f C.1 (tgt := 52) dX12_can_45 (by decide) hx1 (by decide) (by omega) ?_
          refine x_ldc2 C.1 (n := -1) wq_X12_345 dX12_can_48 ?_
          exact x_lret (S := Unit) (post := fun r _ => r = -1) (w1 := fun _ : Unit => MW cy ad V J Rr) (a := (-1)) C hr rfl dX12_can_51 (by decide) () rfl (by omega)
        · refine x_if_eq_t C.1 (tgt := 48) dX12_can_37 (by decide) (by decide) (by decide) ?_
          refine x_ldc2 C.1 (n := -1) wq_X12_345 dX12_can_48 ?_
          exact x_lret (S := Unit) (post := fun r _ => r = -1) (w1 := fun _ : Unit => MW cy ad V J Rr) (a := (-1)) C hr rfl dX12_can_51 (by decide) () rfl (by omega)
      · refine x_if_eq_t C.1 (tgt := 48) dX12_can_27 (by decide) (by decide) (by decide) ?_
        refine x_ldc2 C.1 (n := -1) wq_X12_345 dX12_can_48 ?_
        exact x_lret (S := Unit) (post := fun r _ => r = -1) (w1 := fun _ : Unit => MW cy ad V J Rr) (a := (-1)) C hr rfl dX12_can_51 (by decide) () rfl (by omega)
    · refine x_if_eq_t C.1 (tgt := 48) dX12_can_17 (by decide) (by decide) (by decide) ?_
      refine x_ldc2 C.1 (n := -1) wq_X12_345 dX12_can_48 ?_
      exact x_lret (S := Unit) (post := fun r _ => r = -1) (w1 := fun _ : Unit => MW cy ad V J Rr) (a := (-1)) C hr rfl dX12_can_51 (by decide) () rfl (by omega)
  · refine x_if_eq_t C.1 (tgt := 48) dX12_can_7 (by decide) (by decide) (by decide) ?_
    refine x_ldc2 C.1 (n := -1) wq_X12_345 dX12_can_48 ?_
    exact x_lret (S := Unit) (post := fun r _ => r = -1) (w1 := fun _ : Unit => MW cy ad V J Rr) (a := (-1)) C hr rfl dX12_can_51 (by decide) () rfl (by omega)
theorem dX12_check_0 : decode cX12_check 0 = .ok (.aload_n 0, 1) := by decide +kernel
theorem dX12_check_1 : decode cX12_check 1 = .ok (.iload_n 1, 1) := by decide +kernel
theorem dX12_check_2 : decode cX12_check 2 = .ok (.invokevirtual 122, 3) := by decide +kernel
theorem dX12_check_5 : decode cX12_check 5 = .ok (.ifCond .eq 23, 3) := by decide +kernel
theorem dX12_check_28 : decode cX12_check 28 = .ok (.bipush (-2), 2) := by decide +kernel
theorem dX12_check_30 : decode cX12_check 30 = .ok (.ireturn, 1) := by decide +kernel
set_option maxHeartbeats 4000000 in
set_option maxRecDepth 100000 in
theorem g_check (l : Launch) (D : va_G) (cy : Nat → ClassId) (ad : Nat → Nat) (V J : Nat → Nat → Int) (Rr : Nat → Nat → Nat) (hV : VR V) (hJ : VJ J) (x1 x2 : Int) (hx1 : R32 x1) (hx2 : R32 x2) (h76 : V 1 76 = 0) (h78 : V 1 78 = 0) (htp : V 0 4 = 0)  : xMi l D (xTY cy) yX12_check cX12_check 4 (some .int) 2 42 0 0 [.ref (ad 0), vI x1, vI x2] (MW cy ad V J Rr) (fun _ : Unit => MW cy ad V J Rr) (fun r _ => r = -2) := by
  refine xMi.mk (lv0 := [(0, .ref (ad 0)), (1, vI x1), (2, vI x2)]) (by decide) rfl (Nat.le_of_ble_eq_true rfl) (fun p e s m below meth c A C hr hnm hAe => ?_)
  have C : xC2 p s m _ meth c D A s.heap 4 cX12_check RX12 (xTY cy) := C
  refine x_aload_n C.1 dX12_check_0 0 rfl ?_
  refine x_iload_n C.1 dX12_check_1 1 rfl ?_
  refine x_callVi C (As := [vI x1]) (rest := []) 0 (xw_at (N := 33) (i := 0) (by decide) rfl) vc_X12 (g_isPlant l D cy ad V J Rr hV hJ x1 hx1 h76 h78 htp) (l1 := []) (l2 := []) (List.append_nil _).symm (w2 := fun _ => MW cy ad V J Rr) (fun _ => List.append_nil _) rfl wm_yX12_isPlant wn_X12 wl_X12_122 wi_yX12_isPlant we_yX12_isPlant hd_yX12_isPlant rfl ⟨Nat.le_of_ble_eq_true rfl, Nat.le_of_ble_eq_true rfl⟩ (Nat.le_of_ble_eq_true rfl) ⟨Nat.le_of_ble_eq_true rfl, Nat.le_of_ble_eq_true rfl⟩ dX12_check_2 (fun r1 u1 hr1 h1 => ?_)
  obtain rfl := h1
  refine x_if_eq_t C.1 (tgt := 28) dX12_check_5 (by decide) (by decide) (by decide) ?_
  refine x_bipush C.1 (n := -2) dX12_check_28 ?_
  exact x_iret (S := Unit) (post := fun r _ => r = -2) (w1 := fun _ : Unit => MW cy ad V J Rr) (a := (-2)) C hr rfl dX12_check_30 (by decide) () rfl (by omega)
theorem hd_yX12_bits : yX12_bits.cls ≠ "java/lang/invoke/MethodHandle" ∧ yX12_bits.cls ≠ "java/lang/invoke/VarHandle" ∧ (parseMethodDescriptor yX12_bits.desc).map (fun d => d.parameters.length) = some 1 := by decide +kernel
theorem dX12_whoDid_0 : decode cX12_whoDid 0 = .ok (.iload_n 1, 1) := by decide +kernel
theorem dX12_whoDid_1 : decode cX12_whoDid 1 = .ok (.iconst 1, 1) := by decide +kernel
theorem dX12_whoDid_2 : decode cX12_whoDid 2 = .ok (.bipush 6, 2) := by decide +kernel
theorem dX12_whoDid_4 : decode cX12_whoDid 4 = .ok (.invokestatic 126, 3) := by decide +kernel
theorem dX12_whoDid_7 : decode cX12_whoDid 7 = .ok (.ifCond .eq 63, 3) := by decide +kernel
theorem dX12_whoDid_10 : decode cX12_whoDid 10 = .ok (.iload_n 2, 1) := by decide +kernel
theorem dX12_whoDid_11 : decode cX12_whoDid 11 = .ok (.iconst 1, 1) := by decide +kernel
theorem dX12_whoDid_12 : decode cX12_whoDid 12 = .ok (.sipush 255, 3) := by decide +kernel
theorem dX12_whoDid_15 : decode cX12_whoDid 15 = .ok (.invokestatic 126, 3) := by decide +kernel
theorem dX12_whoDid_18 : decode cX12_whoDid 18 = .ok (.ifCond .eq 52, 3) := by decide +kernel
theorem dX12_whoDid_21 : decode cX12_whoDid 21 = .ok (.iload_n 2, 1) := by decide +kernel
theorem dX12_whoDid_22 : decode cX12_whoDid 22 = .ok (.invokestatic 247, 3) := by decide +kernel
theorem dX12_whoDid_25 : decode cX12_whoDid 25 = .ok (.iconst 5, 1) := by decide +kernel
theorem dX12_whoDid_26 : decode cX12_whoDid 26 = .ok (.if_icmp .gt 44, 3) := by decide +kernel
theorem dX12_whoDid_29 : decode cX12_whoDid 29 = .ok (.iload_n 3, 1) := by decide +kernel
theorem dX12_whoDid_30 : decode cX12_whoDid 30 = .ok (.iconst 1, 1) := by decide +kernel
theorem dX12_whoDid_31 : decode cX12_whoDid 31 = .ok (.bipush 9, 2) := by decide +kernel
theorem dX12_whoDid_33 : decode cX12_whoDid 33 = .ok (.invokestatic 126, 3) := by decide +kernel
theorem dX12_whoDid_36 : decode cX12_whoDid 36 = .ok (.ifCond .eq 34, 3) := by decide +kernel
theorem dX12_whoDid_39 : decode cX12_whoDid 39 = .ok (.iload 4, 2) := by decide +kernel
theorem dX12_whoDid_41 : decode cX12_whoDid 41 = .ok (.iconst 0, 1) := by decide +kernel
theorem dX12_whoDid_42 : decode cX12_whoDid 42 = .ok (.bipush 9, 2) := by decide +kernel
theorem dX12_whoDid_44 : decode cX12_whoDid 44 = .ok (.invokestatic 126, 3) := by decide +kernel
theorem dX12_whoDid_47 : decode cX12_whoDid 47 = .ok (.ifCond .eq 23, 3) := by decide +kernel
theorem dX12_whoDid_50 : decode cX12_whoDid 50 = .ok (.iload 5, 2) := by decide +kernel
theorem dX12_whoDid_52 : decode cX12_whoDid 52 = .ok (.iconst 0, 1) := by decide +kernel
theorem dX12_whoDid_53 : decode cX12_whoDid 53 = .ok (.iconst 2, 1) := by decide +kernel
theorem dX12_whoDid_54 : decode cX12_whoDid 54 = .ok (.invokestatic 126, 3) := by decide +kernel
theorem dX12_whoDid_57 : decode cX12_whoDid 57 = .ok (.ifCond .eq 13, 3) := by decide +kernel
theorem dX12_whoDid_60 : decode cX12_whoDid 60 = .ok (.iload_n 1, 1) := by decide +kernel
theorem dX12_whoDid_61 : decode cX12_whoDid 61 = .ok (.iconst 1, 1) := by decide +kernel
theorem dX12_whoDid_62 : decode cX12_whoDid 62 = .ok (.iadd, 1) := by decide +kernel
theorem dX12_whoDid_63 : decode cX12_whoDid 63 = .ok (.aload_n 0, 1) := by decide +kernel
theorem dX12_whoDid_64 : decode cX12_whoDid 64 = .ok (.getfield 137, 3) := by decide +kernel
theorem dX12_whoDid_67 : decode cX12_whoDid 67 = .ok (.if_icmp .le 7, 3) := by decide +kernel
theorem dX12_whoDid_70 : decode cX12_whoDid 70 = .ok (.ldc2_w 345, 3) := by decide +kernel
theorem dX12_whoDid_73 : decode cX12_whoDid 73 = .ok (.lreturn, 1) := by decide +kernel
set_option maxHeartbeats 4000000 in
set_option maxRecDepth 100000 in
theorem g_whoDid (l : Launch) (D : va_G) (cy : Nat → ClassId) (ad : Nat → Nat) (V J : Nat → Nat → Int) (Rr : Nat → Nat → Nat) (hV : VR V) (hJ : VJ J) (x1 x2 x3 x4 x5 : Int) (hx1 : R32 x1) (hx2 : R32 x2) (hx3 : R32 x3) (hx4 : R32 x4) (hx5 : R32 x5) (h76 : V 1 76 = 0) (h78 : V 1 78 = 0) (htp : V 0 4 = 0)  : xMl l D (xTY cy) yX12_whoDid cX12_whoDid 14 (some .long) 1 22 0 0 [.ref (ad 0), vI x1, vI x2, vI x3, vI x4, vI x5] (MW cy ad V J Rr) (fun _ : Unit => MW cy ad V J Rr) (fun r _ => r = -1) := by
  refine xMl.mk (lv0 := [(0, .ref (ad 0)), (1, vI x1), (2, vI x2), (3, vI x3), (4, vI x4), (5, vI x5)]) (by decide) rfl (Nat.le_of_ble_eq_true rfl) (fun p e s m below meth c A C hr hnm hAe => ?_)
  have C : xC2 p s m _ meth c D A s.heap 14 cX12_whoDid RX12 (xTY cy) := C
  refine x_iload_n C.1 dX12_whoDid_0 1 rfl ?_
  refine x_iconst C.1 (n := 1) dX12_whoDid_1 ?_
  refine x_bipush C.1 (n := 6) dX12_whoDid_2 ?_
  refine x_callSi C (As := [vI x1, vI 1, vI 6]) (rest := []) (c_in l D cy x1 1 6 hx1 (by decide) (by decide)) (l1 := []) (l2 := _) rfl (w2 := fun _ => _) (fun _ => rfl) rfl wm_yX12_in wn_X12 wl_X12_126 wi_yX12_in hd_yX12_in rfl ⟨Nat.le_of_ble_eq_true rfl, Nat.le_of_ble_eq_true rfl⟩ (Nat.le_of_ble_eq_true rfl) ⟨Nat.le_of_ble_eq_true rfl, Nat.le_of_ble_eq_true rfl⟩ dX12_whoDid_4 (fun r1 u1 hr1 h1 => ?_)
  rcases h1 with ⟨rfl, t1, t1b⟩ | ⟨rfl, t1⟩
  · refine x_if_eq_f C.1 (tgt := 70) dX12_whoDid_7 (by decide) (by decide) (by decide) ?_
    refine x_iload_n C.1 dX12_whoDid_10 2 rfl ?_
    refine x_iconst C.1 (n := 1) dX12_whoDid_11 ?_
    refine x_sipush C.1 (n := 255) dX12_whoDid_12 ?_
    refine x_callSi C (As := [vI x2, vI 1, vI 255]) (rest := []) (c_in l D cy x2 1 255 hx2 (by decide) (by decide)) (l1 := []) (l2 := _) rfl (w2 := fun _ => _) (fun _ => rfl) rfl wm_yX12_in wn_X12 wl_X12_126 wi_yX12_in hd_yX12_in rfl ⟨Nat.le_of_ble_eq_true rfl, Nat.le_of_ble_eq_true rfl⟩ (Nat.le_of_ble_eq_true rfl) ⟨Nat.le_of_ble_eq_true rfl, Nat.le_of_ble_eq_true rfl⟩ dX12_whoDid_15 (fun r2 u2 hr2 h2 => ?_)
    rcases h2 with ⟨rfl, t2, t2b⟩ | ⟨rfl, t2⟩
    · refine x_if_eq_f C.1 (tgt := 70) dX12_whoDid_18 (by decide) (by decide) (by decide) ?_
      refine x_iload_n C.1 dX12_whoDid_21 2 rfl ?_
      refine x_callSi C (As := [vI x2]) (rest := []) (c_bits l D cy x2 hx2) (l1 := []) (l2 := _) rfl (w2 := fun _ => _) (fun _ => rfl) rfl wm_yX12_bits wn_X12 wl_X12_247 wi_yX12_bits hd_yX12_bits rfl ⟨Nat.le_of_ble_eq_true rfl, Nat.le_of_ble_eq_true rfl⟩ (Nat.le_of_ble_eq_true rfl) ⟨Nat.le_of_ble_eq_true rfl, Nat.le_of_ble_eq_true rfl⟩ dX12_whoDid_22 (fun r3 u3 hr3 h3 => ?_)
      obtain ⟨t3, t3b⟩ := h3
      refine x_iconst C.1 (n := 5) dX12_whoDid_25 ?_
      refine x_icmp_gt C.1 (tgt := 70) dX12_whoDid_26 (by decide) hr3 (by decide) (fun c26_4 => ?_) (fun c26_4 => ?_)
      · refine x_ldc2 C.1 (n := -1) wq_X12_345 dX12_whoDid_70 ?_
        exact x_lret (S := Unit) (post := fun r _ => r = -1) (w1 := fun _ : Unit => MW cy ad V J Rr) (a := (-1)) C hr rfl dX12_whoDid_73 (by decide) () rfl (by omega)
      · refine x_iload_n C.1 dX12_whoDid_29 3 rfl ?_
        refine x_iconst C.1 (n := 1) dX12_whoDid_30 ?_
        refine x_bipush C.1 (n := 9) dX12_whoDid_31 ?_
        refine x_callSi C (As := [vI x3, vI 1, vI 9]) (rest := []) (c_in l D cy x3 1 9 hx3 (by decide) (by decide)) (l1 := []) (l2 := _) rfl (w2 := fun _ => _) (fun _ => rfl) rfl wm_yX12_in wn_X12 wl_X12_126 wi_yX12_in hd_yX12_in rfl ⟨Nat.le_of_ble_eq_true rfl, Nat.le_of_ble_eq_true rfl⟩ (Nat.le_of_ble_eq_true rfl) ⟨Nat.le_of_ble_eq_true rfl, Nat.le_of_ble_eq_true rfl⟩ dX12_whoDid_33 (fun r5 u5 hr5 h5 => ?_)
        rcases h5 with ⟨rfl, t5, t5b⟩ | ⟨rfl, t5⟩
        · refine x_if_eq_f C.1 (tgt := 70) dX12_whoDid_36 (by decide) (by decide) (by decide) ?_
          refine x_iload C.1 dX12_whoDid_39 4 rfl ?_
          refine x_iconst C.1 (n := 0) dX12_whoDid_41 ?_
          refine x_bipush C.1 (n := 9) dX12_whoDid_42 ?_
          refine x_callSi C (As := [vI x4, vI 0, vI 9]) (rest := []) (c_in l D cy x4 0 9 hx4 (by decide) (by decide)) (l1 := []) (l2 := _) rfl (w2 := fun _ => _) (fun _ => rfl) rfl wm_yX12_in wn_X12 wl_X12_126 wi_yX12_in hd_yX12_in rfl ⟨Nat.le_of_ble_eq_true rfl, Nat.le_of_ble_eq_true rfl⟩ (Nat.le_of_ble_eq_true rfl) ⟨Nat.le_of_ble_eq_true rfl, Nat.le_of_ble_eq_true rfl⟩ dX12_whoDid_44 (fun r6 u6 hr6 h6 => ?_)
          rcases h6 with ⟨rfl, t6, t6b⟩ | ⟨rfl, t6⟩
          · refine x_if_eq_f C.1 (tgt := 70) dX12_whoDid_47 (by decide) (by decide) (by decide) ?_
            refine x_iload C.1 dX12_whoDid_50 5 rfl ?_
            refine x_iconst C.1 (n := 0) dX12_whoDid_52 ?_
            refine x_iconst C.1 (n := 2) dX12_whoDid_53 ?_
            refine x_callSi C (As := [vI x5, vI 0, vI 2]) (rest := []) (c_in l D cy x5 0 2 hx5 (by decide) (by decide)) (l1 := []) (l2 := _) rfl (w2 := fun _ => _) (fun _ => rfl) rfl wm_yX12_in wn_X12 wl_X12_126 wi_yX12_in hd_yX12_in rfl ⟨Nat.le_of_ble_eq_true rfl, Nat.le_of_ble_eq_true rfl⟩ (Nat.le_of_ble_eq_true rfl) ⟨Nat.le_of_ble_eq_true rfl, Nat.le_of_ble_eq_true rfl⟩ dX12_whoDid_54 (fun r7 u7 hr7 h7 => ?_)
            rcases h7 with ⟨rfl, t7, t7b⟩ | ⟨rfl, t7⟩
            · refine x_if_eq_f C.1 (tgt := 70) dX12_whoDid_57 (by decide) (by decide) (by decide) ?_
              refine x_iload_n C.1 dX12_whoDid_60 1 rfl ?_
              refine x_iconst C.1 (n := 1) dX12_whoDid_61 ?_
              refine x_iadd C.1 (v := x1 + 1) rfl dX12_whoDid_62 ?_
              refine x_aload_n C.1 dX12_whoDid_63 0 rfl ?_
              refine x_getI C (N := 33) (i := 0) (by decide) rfl vc_X12 wx_X12 4 (by decide) wf_X12_137 rfl dX12_whoDid_64 (a := 0) htp ?_
              refine x_icmp_le_f C.1 (tgt := 74) dX12_whoDid_67 (by decide) (by omega) (by decide) (by omega) ?_
              refine x_ldc2 C.1 (n := -1) wq_X12_345 dX12_whoDid_70 ?_
              exact x_lret (S := Unit) (post := fun r _ => r = -1) (w1 := fun _ : Unit => MW cy ad V J Rr) (a := (-1)) C hr rfl dX12_whoDid_73 (by decide) () rfl (by omega)
            · refine x_if_eq_t C.1 (tgt := 70) dX12_whoDid_57 (by decide) (by decide) (by decide) ?_
              refine x_ldc2 C.1 (n := -1) wq_X12_345 dX12_whoDid_70 ?_
              exact x_lret (S := Unit) (post := fun r _ => r = -1) (w1 := fun _ : Unit => MW cy ad V J Rr) (a := (-1)) C hr rfl dX12_whoDid_73 (by decide) () rfl (by omega)
          · refine x_if_eq_t C.1 (tgt := 70) dX12_whoDid_47 (by decide) (by decide) (by decide) ?_
            refine x_ldc2 C.1 (n := -1) wq_X12_345 dX12_whoDid_70 ?_
            exact x_lret (S := Unit) (post := fun r _ => r = -1) (w1 := fun _ : Unit => MW cy ad V J Rr) (a := (-1)) C hr rfl dX12_whoDid_73 (by decide) () rfl (by omega)
        · refine x_if_eq_t C.1 (tgt := 70) dX12_whoDid_36 (by decide) (by decide) (by decide) ?_
          refine x_ldc2 C.1 (n := -1) wq_X12_345 dX12_whoDid_70 ?_
          exact x_lret (S := Unit) (post := fun r _ => r = -1) (w1 := fun _ : Unit => MW cy ad V J Rr) (a := (-1)) C hr rfl dX12_whoDid_73 (by decide) () rfl (by omega)
    · refine x_if_eq_t C.1 (tgt := 70) dX12_whoDid_18 (by decide) (by decide) (by decide) ?_
      refine x_ldc2 C.1 (n := -1) wq_X12_345 dX12_whoDid_70 ?_
      exact x_lret (S := Unit) (post := fun r _ => r = -1) (w1 := fun _ : Unit => MW cy ad V J Rr) (a := (-1)) C hr rfl dX12_whoDid_73 (by decide) () rfl (by omega)
  · refine x_if_eq_t C.1 (tgt := 70) dX12_whoDid_7 (by decide) (by decide) (by decide) ?_
    refine x_ldc2 C.1 (n := -1) wq_X12_345 dX12_whoDid_70 ?_
    exact x_lret (S := Unit) (post := fun r _ => r = -1) (w1 := fun _ : Unit => MW cy ad V J Rr) (a := (-1)) C hr rfl dX12_whoDid_73 (by decide) () rfl (by omega)
theorem dX12_undo_0 : decode cX12_undo 0 = .ok (.aload_n 0, 1) := by decide +kernel
theorem dX12_undo_1 : decode cX12_undo 1 = .ok (.getfield 417, 3) := by decide +kernel
theorem dX12_undo_4 : decode cX12_undo 4 = .ok (.ifCond .ne 5, 3) := by decide +kernel
theorem dX12_undo_7 : decode cX12_undo 7 = .ok (.iconst 0, 1) := by decide +kernel
theorem dX12_undo_8 : decode cX12_undo 8 = .ok (.ireturn, 1) := by decide +kernel
set_option maxHeartbeats 4000000 in
set_option maxRecDepth 100000 in
theorem g_undo (l : Launch) (D : va_G) (cy : Nat → ClassId) (ad : Nat → Nat) (V J : Nat → Nat → Int) (Rr : Nat → Nat → Nat) (hV : VR V) (hJ : VJ J)  (h76 : V 1 76 = 0) (h78 : V 1 78 = 0) (htp : V 0 4 = 0) (hkp : V 0 53 = 0) : xMi l D (xTY cy) yX12_undo cX12_undo 1 (some .boolean) 0 0 0 0 [.ref (ad 0)] (MW cy ad V J Rr) (fun _ : Unit => MW cy ad V J Rr) (fun r _ => r = 0) := by
  refine xMi.mk (lv0 := [(0, .ref (ad 0))]) (by decide) rfl (Nat.le_of_ble_eq_true rfl) (fun p e s m below meth c A C hr hnm hAe => ?_)
  have C : xC2 p s m _ meth c D A s.heap 1 cX12_undo RX12 (xTY cy) := C
  refine x_aload_n C.1 dX12_undo_0 0 rfl ?_
  refine x_getI C (N := 33) (i := 0) (by decide) rfl vc_X12 wx_X12 53 (by decide) wf_X12_417 rfl dX12_undo_1 (a := 0) hkp ?_
  refine x_if_ne_f C.1 (tgt := 9) dX12_undo_4 (by decide) (by decide) (by decide) ?_
  refine x_iconst C.1 (n := 0) dX12_undo_7 ?_
  exact x_zret (S := Unit) (post := fun r _ => r = 0) (w1 := fun _ : Unit => MW cy ad V J Rr) (a := 0) C hr rfl dX12_undo_8 (by decide) () rfl (by omega)
theorem dX12_seed_0 : decode cX12_seed 0 = .ok (.iload_n 1, 1) := by decide +kernel
theorem dX12_seed_1 : decode cX12_seed 1 = .ok (.iconst 0, 1) := by decide +kernel
theorem dX12_seed_2 : decode cX12_seed 2 = .ok (.ldc_w 416, 3) := by decide +kernel
theorem dX12_seed_5 : decode cX12_seed 5 = .ok (.invokestatic 126, 3) := by decide +kernel
theorem dX12_seed_8 : decode cX12_seed 8 = .ok (.ifCond .ne 5, 3) := by decide +kernel
theorem dX12_seed_11 : decode cX12_seed 11 = .ok (.iconst 0, 1) := by decide +kernel
theorem dX12_seed_12 : decode cX12_seed 12 = .ok (.ireturn, 1) := by decide +kernel
theorem dX12_seed_13 : decode cX12_seed 13 = .ok (.aload_n 0, 1) := by decide +kernel
theorem dX12_seed_14 : decode cX12_seed 14 = .ok (.getfield 7, 3) := by decide +kernel
theorem dX12_seed_17 : decode cX12_seed 17 = .ok (.bipush 80, 2) := by decide +kernel
theorem dX12_seed_19 : decode cX12_seed 19 = .ok (.iload_n 1, 1) := by decide +kernel
theorem dX12_seed_20 : decode cX12_seed 20 = .ok (.iastore, 1) := by decide +kernel
theorem dX12_seed_21 : decode cX12_seed 21 = .ok (.iconst 1, 1) := by decide +kernel
theorem dX12_seed_22 : decode cX12_seed 22 = .ok (.ireturn, 1) := by decide +kernel
set_option maxHeartbeats 4000000 in
set_option maxRecDepth 100000 in
theorem g_seed (l : Launch) (D : va_G) (cy : Nat → ClassId) (ad : Nat → Nat) (V J : Nat → Nat → Int) (Rr : Nat → Nat → Nat) (hV : VR V) (hJ : VJ J) (x1 : Int) (hx1 : R32 x1) (h76 : V 1 76 = 0) (h78 : V 1 78 = 0) (htp : V 0 4 = 0)  : xMi l D (xTY cy) yX12_seed cX12_seed 2 (some .boolean) 1 22 0 0 [.ref (ad 0), vI x1] (MW cy ad V J Rr) (fun u : xS => MW cy ad u.1 u.2.1 u.2.2) (fun r _ => (r = 1 ∧ 0 ≤ x1 ∧ x1 ≤ 65535) ∨ (r = 0 ∧ ¬ (0 ≤ x1 ∧ x1 ≤ 65535))) := by
  refine xMi.mk (lv0 := [(0, .ref (ad 0)), (1, vI x1)]) (by decide) rfl (Nat.le_of_ble_eq_true rfl) (fun p e s m below meth c A C hr hnm hAe => ?_)
  have C : xC2 p s m _ meth c D A s.heap 2 cX12_seed RX12 (xTY cy) := C
  refine x_iload_n C.1 dX12_seed_0 1 rfl ?_
  refine x_iconst C.1 (n := 0) dX12_seed_1 ?_
  refine x_ldcw C.1 (n := 65535) wq_X12_416 dX12_seed_2 ?_
  refine x_callSi C (As := [vI x1, vI 0, vI 65535]) (rest := []) (c_in l D cy x1 0 65535 hx1 (by decide) (by decide)) (l1 := []) (l2 := _) rfl (w2 := fun _ => _) (fun _ => rfl) rfl wm_yX12_in wn_X12 wl_X12_126 wi_yX12_in hd_yX12_in rfl ⟨Nat.le_of_ble_eq_true rfl, Nat.le_of_ble_eq_true rfl⟩ (Nat.le_of_ble_eq_true rfl) ⟨Nat.le_of_ble_eq_true rfl, Nat.le_of_ble_eq_true rfl⟩ dX12_seed_5 (fun r1 u1 hr1 h1 => ?_)
  rcases h1 with ⟨rfl, t1, t1b⟩ | ⟨rfl, t1⟩
  · refine x_if_ne_t C.1 (tgt := 13) dX12_seed_8 (by decide) (by decide) (by decide) ?_
    refine x_aload_n C.1 dX12_seed_13 0 rfl ?_
    refine x_getA C (N := 33) (i := 0) (by decide) rfl vc_X12 wx_X12 0 (by decide) wf_X12_7 (a := 1) rfl dX12_seed_14 ?_
    refine x_bipush C.1 (n := 80) dX12_seed_17 ?_
    refine x_iload_n C.1 dX12_seed_19 1 rfl ?_
    refine x_iast C (N := 33) (i := 1) (q := 80) (a := x1) (by decide) rfl (by decide) (by decide) dX12_seed_20 ?_
    rw [show (80 : Int).toNat = 80 from rfl]
    refine x_iconst C.1 (n := 1) dX12_seed_21 ?_
    exact x_zret (S := xS) (post := fun r _ => (r = 1 ∧ 0 ≤ x1 ∧ x1 ≤ 65535) ∨ (r = 0 ∧ ¬ (0 ≤ x1 ∧ x1 ≤ 65535))) (w1 := fun u : xS => MW cy ad u.1 u.2.1 u.2.2) (a := 1) C hr rfl dX12_seed_22 (by decide) ((up2 V 1 80 x1), J, Rr) rfl (by omega)
  · refine x_if_ne_f C.1 (tgt := 13) dX12_seed_8 (by decide) (by decide) (by decide) ?_
    refine x_iconst C.1 (n := 0) dX12_seed_11 ?_
    exact x_zret (S := xS) (post := fun r _ => (r = 1 ∧ 0 ≤ x1 ∧ x1 ≤ 65535) ∨ (r = 0 ∧ ¬ (0 ≤ x1 ∧ x1 ≤ 65535))) (w1 := fun u : xS => MW cy ad u.1 u.2.1 u.2.2) (a := 0) C hr rfl dX12_seed_12 (by decide) (V, J, Rr) rfl (by omega)
theorem dX12_share_0 : decode cX12_share 0 = .ok (.iconst 0, 1) := by decide +kernel
theorem dX12_share_1 : decode cX12_share 1 = .ok (.istore_n 3, 1) := by decide +kernel
theorem dX12_share_2 : decode cX12_share 2 = .ok (.bipush (-2), 2) := by decide +kernel
theorem dX12_share_4 : decode cX12_share 4 = .ok (.istore 4, 2) := by decide +kernel
theorem dX12_share_6 : decode cX12_share 6 = .ok (.iconst 0, 1) := by decide +kernel
theorem dX12_share_7 : decode cX12_share 7 = .ok (.istore 5, 2) := by decide +kernel
theorem dX12_share_9 : decode cX12_share 9 = .ok (.iload 5, 2) := by decide +kernel
theorem dX12_share_11 : decode cX12_share 11 = .ok (.bipush 8, 2) := by decide +kernel
theorem dX12_share_13 : decode cX12_share 13 = .ok (.if_icmp .ge 81, 3) := by decide +kernel
theorem dX12_share_16 : decode cX12_share 16 = .ok (.aload_n 0, 1) := by decide +kernel
theorem dX12_share_17 : decode cX12_share 17 = .ok (.iload 5, 2) := by decide +kernel
theorem dX12_share_19 : decode cX12_share 19 = .ok (.invokevirtual 259, 3) := by decide +kernel
theorem dX12_share_22 : decode cX12_share 22 = .ok (.ifCond .ne 6, 3) := by decide +kernel
theorem dX12_share_25 : decode cX12_share 25 = .ok (.goto 63, 3) := by decide +kernel
theorem dX12_share_88 : decode cX12_share 88 = .ok (.iinc 5 1, 3) := by decide +kernel
theorem dX12_share_91 : decode cX12_share 91 = .ok (.goto (-82), 3) := by decide +kernel
theorem dX12_share_94 : decode cX12_share 94 = .ok (.iload_n 1, 1) := by decide +kernel
theorem dX12_share_95 : decode cX12_share 95 = .ok (.iconst (-1), 1) := by decide +kernel
theorem dX12_share_96 : decode cX12_share 96 = .ok (.if_icmp .ne 14, 3) := by decide +kernel
theorem dX12_share_99 : decode cX12_share 99 = .ok (.iload_n 2, 1) := by decide +kernel
theorem dX12_share_100 : decode cX12_share 100 = .ok (.ifCond .ne 8, 3) := by decide +kernel
theorem dX12_share_103 : decode cX12_share 103 = .ok (.iload 4, 2) := by decide +kernel
theorem dX12_share_105 : decode cX12_share 105 = .ok (.goto 4, 3) := by decide +kernel
theorem dX12_share_108 : decode cX12_share 108 = .ok (.iconst (-1), 1) := by decide +kernel
theorem dX12_share_109 : decode cX12_share 109 = .ok (.ireturn, 1) := by decide +kernel
theorem dX12_share_110 : decode cX12_share 110 = .ok (.aload_n 0, 1) := by decide +kernel
theorem dX12_share_111 : decode cX12_share 111 = .ok (.iload_n 1, 1) := by decide +kernel
theorem dX12_share_112 : decode cX12_share 112 = .ok (.invokevirtual 259, 3) := by decide +kernel
theorem dX12_share_115 : decode cX12_share 115 = .ok (.ifCond .eq 12, 3) := by decide +kernel
theorem dX12_share_127 : decode cX12_share 127 = .ok (.iconst (-1), 1) := by decide +kernel
theorem dX12_share_128 : decode cX12_share 128 = .ok (.ireturn, 1) := by decide +kernel
set_option maxHeartbeats 4000000 in
set_option maxRecDepth 100000 in
theorem g_share (l : Launch) (D : va_G) (cy : Nat → ClassId) (ad : Nat → Nat) (V J : Nat → Nat → Int) (Rr : Nat → Nat → Nat) (hV : VR V) (hJ : VJ J) (x1 x2 : Int) (hx1 : R32 x1) (hx2 : R32 x2) (h76 : V 1 76 = 0) (h78 : V 1 78 = 0) (htp : V 0 4 = 0)  : xMi l D (xTY cy) yX12_share cX12_share 6 (some .int) 2 42 0 0 [.ref (ad 0), vI x1, vI x2] (MW cy ad V J Rr) (fun _ : Unit => MW cy ad V J Rr) (fun r _ => (x1 = -1 ∧ x2 = 0 ∧ r = -2) ∨ (¬ (x1 = -1 ∧ x2 = 0) ∧ r = -1)) := by
  refine xMi.mk (lv0 := [(0, .ref (ad 0)), (1, vI x1), (2, vI x2)]) (by decide) rfl (Nat.le_of_ble_eq_true rfl) (fun p e s m below meth c A C hr hnm hAe => ?_)
  have C : xC2 p s m _ meth c D A s.heap 6 cX12_share RX12 (xTY cy) := C
  refine x_iconst C.1 (n := 0) dX12_share_0 ?_
  refine x_istore_n C.1 (lv' := [(3, vI 0), (0, .ref (ad 0)), (1, vI x1), (2, vI x2)]) dX12_share_1 (by decide) rfl ?_
  refine x_bipush C.1 (n := -2) dX12_share_2 ?_
  refine x_istore C.1 (lv' := [(4, vI (-2)), (3, vI 0), (0, .ref (ad 0)), (1, vI x1), (2, vI x2)]) dX12_share_4 (by decide) rfl ?_
  refine x_iconst C.1 (n := 0) dX12_share_6 ?_
  refine x_istore C.1 (lv' := [(5, vI 0), (4, vI (-2)), (3, vI 0), (0, .ref (ad 0)), (1, vI x1), (2, vI x2)]) dX12_share_7 (by decide) rfl ?_
  refine x_iload C.1 dX12_share_9 0 rfl ?_
  refine x_bipush C.1 (n := 8) dX12_share_11 ?_
  refine x_icmp_ge_f C.1 (tgt := 94) dX12_share_13 (by decide) (by decide) (by decide) (by decide) ?_
  refine x_aload_n C.1 dX12_share_16 3 rfl ?_
  refine x_iload C.1 dX12_share_17 0 rfl ?_
  refine x_callVi C (As := [vI 0]) (rest := []) 0 (xw_at (N := 33) (i := 0) (by decide) rfl) vc_X12 (g_isPerson l D cy ad V J Rr hV hJ 0 (by decide) h76 h78 htp) (l1 := []) (l2 := []) (List.append_nil _).symm (w2 := fun _ => MW cy ad V J Rr) (fun _ => List.append_nil _) rfl wm_yX12_isPerson wn_X12 wl_X12_259 wi_yX12_isPerson we_yX12_isPerson hd_yX12_isPerson rfl ⟨Nat.le_of_ble_eq_true rfl, Nat.le_of_ble_eq_true rfl⟩ (Nat.le_of_ble_eq_true rfl) ⟨Nat.le_of_ble_eq_true rfl, Nat.le_of_ble_eq_true rfl⟩ dX12_share_19 (fun r1 u1 hr1 h1 => ?_)
  obtain rfl := h1
  refine x_if_ne_f C.1 (tgt := 28) dX12_share_22 (by decide) (by decide) (by decide) ?_
  refine x_goto C.1 (tgt := 88) dX12_share_25 (by decide) ?_
  refine x_iinc C.1 (v := 1) (lv' := [(5, vI 1), (4, vI (-2)), (3, vI 0), (0, .ref (ad 0)), (1, vI x1), (2, vI x2)]) (by decide) dX12_share_88 0 rfl (by decide) rfl ?_
  refine x_goto C.1 (tgt := 9) dX12_share_91 (by decide) ?_
  refine x_iload C.1 dX12_share_9 0 rfl ?_
  refine x_bipush C.1 (n := 8) dX12_share_11 ?_
  refine x_icmp_ge_f C.1 (tgt := 94) dX12_share_13 (by decide) (by decide) (by decide) (by decide) ?_
  refine x_aload_n C.1 dX12_share_16 3 rfl ?_
  refine x_iload C.1 dX12_share_17 0 rfl ?_
  refine x_callVi C (As := [vI 1]) (rest := []) 0 (xw_at (N := 33) (i := 0) (by decide) rfl) vc_X12 (g_isPerson l D cy ad V J Rr hV hJ 1 (by decide) h76 h78 htp) (l1 := []) (l2 := []) (List.append_nil _).symm (w2 := fun _ => MW cy ad V J Rr) (fun _ => List.append_nil _) rfl wm_yX12_isPerson wn_X12 wl_X12_259 wi_yX12_isPerson we_yX12_isPerson hd_yX12_isPerson rfl ⟨Nat.le_of_ble_eq_true rfl, Nat.le_of_ble_eq_true rfl⟩ (Nat.le_of_ble_eq_true rfl) ⟨Nat.le_of_ble_eq_true rfl, Nat.le_of_ble_eq_true rfl⟩ dX12_share_19 (fun r2 u2 hr2 h2 => ?_)
  obtain rfl := h2
  refine x_if_ne_f C.1 (tgt := 28) dX12_share_22 (by decide) (by decide) (by decide) ?_
  refine x_goto C.1 (tgt := 88) dX12_share_25 (by decide) ?_
  refine x_iinc C.1 (v := 2) (lv' := [(5, vI 2), (4, vI (-2)), (3, vI 0), (0, .ref (ad 0)), (1, vI x1), (2, vI x2)]) (by decide) dX12_share_88 0 rfl (by decide) rfl ?_
  refine x_goto C.1 (tgt := 9) dX12_share_91 (by decide) ?_
  refine x_iload C.1 dX12_share_9 0 rfl ?_
  refine x_bipush C.1 (n := 8) dX12_share_11 ?_
  refine x_icmp_ge_f C.1 (tgt := 94) dX12_share_13 (by decide) (by decide) (by decide) (by decide) ?_
  refine x_aload_n C.1 dX12_share_16 3 rfl ?_
  refine x_iload C.1 dX12_share_17 0 rfl ?_
  refine x_callVi C (As := [vI 2]) (rest := []) 0 (xw_at (N := 33) (i := 0) (by decide) rfl) vc_X12 (g_isPerson l D cy ad V J Rr hV hJ 2 (by decide) h76 h78 htp) (l1 := []) (l2 := []) (List.append_nil _).symm (w2 := fun _ => MW cy ad V J Rr) (fun _ => List.append_nil _) rfl wm_yX12_isPerson wn_X12 wl_X12_259 wi_yX12_isPerson we_yX12_isPerson hd_yX12_isPerson rfl ⟨Nat.le_of_ble_eq_true rfl, Nat.le_of_ble_eq_true rfl⟩ (Nat.le_of_ble_eq_true rfl) ⟨Nat.le_of_ble_eq_true rfl, Nat.le_of_ble_eq_true rfl⟩ dX12_share_19 (fun r3 u3 hr3 h3 => ?_)
  obtain rfl := h3
  refine x_if_ne_f C.1 (tgt := 28) dX12_share_22 (by decide) (by decide) (by decide) ?_
  refine x_goto C.1 (tgt := 88) dX12_share_25 (by decide) ?_
  refine x_iinc C.1 (v := 3) (lv' := [(5, vI 3), (4, vI (-2)), (3, vI 0), (0, .ref (ad 0)), (1, vI x1), (2, vI x2)]) (by decide) dX12_share_88 0 rfl (by decide) rfl ?_
  refine x_goto C.1 (tgt := 9) dX12_share_91 (by decide) ?_
  refine x_iload C.1 dX12_share_9 0 rfl ?_
  refine x_bipush C.1 (n := 8) dX12_share_11 ?_
  refine x_icmp_ge_f C.1 (tgt := 94) dX12_share_13 (by decide) (by decide) (by decide) (by decide) ?_
  refine x_aload_n C.1 dX12_share_16 3 rfl ?_
  refine x_iload C.1 dX12_share_17 0 rfl ?_
  refine x_callVi C (As := [vI 3]) (rest := []) 0 (xw_at (N := 33) (i := 0) (by decide) rfl) vc_X12 (g_isPerson l D cy ad V J Rr hV hJ 3 (by decide) h76 h78 htp) (l1 := []) (l2 := []) (List.append_nil _).symm (w2 := fun _ => MW cy ad V J Rr) (fun _ => List.append_nil _) rfl wm_yX12_isPerson wn_X12 wl_X12_259 wi_yX12_isPerson we_yX12_isPerson hd_yX12_isPerson rfl ⟨Nat.le_of_ble_eq_true rfl, Nat.le_of_ble_eq_true rfl⟩ (Nat.le_of_ble_eq_true rfl) ⟨Nat.le_of_ble_eq_true rfl, Nat.le_of_ble_eq_true rfl⟩ dX12_share_19 (fun r4 u4 hr4 h4 => ?_)
  obtain rfl := h4
  refine x_if_ne_f C.1 (tgt := 28) dX12_share_22 (by decide) (by decide) (by decide) ?_
  refine x_goto C.1 (tgt := 88) dX12_share_25 (by decide) ?_
  refine x_iinc C.1 (v := 4) (lv' := [(5, vI 4), (4, vI (-2)), (3, vI 0), (0, .ref (ad 0)), (1, vI x1), (2, vI x2)]) (by decide) dX12_share_88 0 rfl (by decide) rfl ?_
  refine x_goto C.1 (tgt := 9) dX12_share_91 (by decide) ?_
  refine x_iload C.1 dX12_share_9 0 rfl ?_
  refine x_bipush C.1 (n := 8) dX12_share_11 ?_
  refine x_icmp_ge_f C.1 (tgt := 94) dX12_share_13 (by decide) (by decide) (by decide) (by decide) ?_
  refine x_aload_n C.1 dX12_share_16 3 rfl ?_
  refine x_iload C.1 dX12_share_17 0 rfl ?_
  refine x_callVi C (As := [vI 4]) (rest := []) 0 (xw_at (N := 33) (i := 0) (by decide) rfl) vc_X12 (g_isPerson l D cy ad V J Rr hV hJ 4 (by decide) h76 h78 htp) (l1 := []) (l2 := []) (List.append_nil _).symm (w2 := fun _ => MW cy ad V J Rr) (fun _ => List.append_nil _) rfl wm_yX12_isPerson wn_X12 wl_X12_259 wi_yX12_isPerson we_yX12_isPerson hd_yX12_isPerson rfl ⟨Nat.le_of_ble_eq_true rfl, Nat.le_of_ble_eq_true rfl⟩ (Nat.le_of_ble_eq_true rfl) ⟨Nat.le_of_ble_eq_true rfl, Nat.le_of_ble_eq_true rfl⟩ dX12_share_19 (fun r5 u5 hr5 h5 => ?_)
  obtain rfl := h5
  refine x_if_ne_f C.1 (tgt := 28) dX12_share_22 (by decide) (by decide) (by decide) ?_
  refine x_goto C.1 (tgt := 88) dX12_share_25 (by decide) ?_
  refine x_iinc C.1 (v := 5) (lv' := [(5, vI 5), (4, vI (-2)), (3, vI 0), (0, .ref (ad 0)), (1, vI x1), (2, vI x2)]) (by decide) dX12_share_88 0 rfl (by decide) rfl ?_
  refine x_goto C.1 (tgt := 9) dX12_share_91 (by decide) ?_
  refine x_iload C.1 dX12_share_9 0 rfl ?_
  refine x_bipush C.1 (n := 8) dX12_share_11 ?_
  refine x_icmp_ge_f C.1 (tgt := 94) dX12_share_13 (by decide) (by decide) (by decide) (by decide) ?_
  refine x_aload_n C.1 dX12_share_16 3 rfl ?_
  refine x_iload C.1 dX12_share_17 0 rfl ?_
  refine x_callVi C (As := [vI 5]) (rest := []) 0 (xw_at (N := 33) (i := 0) (by decide) rfl) vc_X12 (g_isPerson l D cy ad V J Rr hV hJ 5 (by decide) h76 h78 htp) (l1 := []) (l2 := []) (List.append_nil _).symm (w2 := fun _ => MW cy ad V J Rr) (fun _ => List.append_nil _) rfl wm_yX12_isPerson wn_X12 wl_X12_259 wi_yX12_isPerson we_yX12_isPerson hd_yX12_isPerson rfl ⟨Nat.le_of_ble_eq_true rfl, Nat.le_of_ble_eq_true rfl⟩ (Nat.le_of_ble_eq_true rfl) ⟨Nat.le_of_ble_eq_true rfl, Nat.le_of_ble_eq_true rfl⟩ dX12_share_19 (fun r6 u6 hr6 h6 => ?_)
  obtain rfl := h6
  refine x_if_ne_f C.1 (tgt := 28) dX12_share_22 (by decide) (by decide) (by decide) ?_
  refine x_goto C.1 (tgt := 88) dX12_share_25 (by decide) ?_
  refine x_iinc C.1 (v := 6) (lv' := [(5, vI 6), (4, vI (-2)), (3, vI 0), (0, .ref (ad 0)), (1, vI x1), (2, vI x2)]) (by decide) dX12_share_88 0 rfl (by decide) rfl ?_
  refine x_goto C.1 (tgt := 9) dX12_share_91 (by decide) ?_
  refine x_iload C.1 dX12_share_9 0 rfl ?_
  refine x_bipush C.1 (n := 8) dX12_share_11 ?_
  refine x_icmp_ge_f C.1 (tgt := 94) dX12_share_13 (by decide) (by decide) (by decide) (by decide) ?_
  refine x_aload_n C.1 dX12_share_16 3 rfl ?_
  refine x_iload C.1 dX12_share_17 0 rfl ?_
  refine x_callVi C (As := [vI 6]) (rest := []) 0 (xw_at (N := 33) (i := 0) (by decide) rfl) vc_X12 (g_isPerson l D cy ad V J Rr hV hJ 6 (by decide) h76 h78 htp) (l1 := []) (l2 := []) (List.append_nil _).symm (w2 := fun _ => MW cy ad V J Rr) (fun _ => List.append_nil _) rfl wm_yX12_isPerson wn_X12 wl_X12_259 wi_yX12_isPerson we_yX12_isPerson hd_yX12_isPerson rfl ⟨Nat.le_of_ble_eq_true rfl, Nat.le_of_ble_eq_true rfl⟩ (Nat.le_of_ble_eq_true rfl) ⟨Nat.le_of_ble_eq_true rfl, Nat.le_of_ble_eq_true rfl⟩ dX12_share_19 (fun r7 u7 hr7 h7 => ?_)
  obtain rfl := h7
  refine x_if_ne_f C.1 (tgt := 28) dX12_share_22 (by decide) (by decide) (by decide) ?_
  refine x_goto C.1 (tgt := 88) dX12_share_25 (by decide) ?_
  refine x_iinc C.1 (v := 7) (lv' := [(5, vI 7), (4, vI (-2)), (3, vI 0), (0, .ref (ad 0)), (1, vI x1), (2, vI x2)]) (by decide) dX12_share_88 0 rfl (by decide) rfl ?_
  refine x_goto C.1 (tgt := 9) dX12_share_91 (by decide) ?_
  refine x_iload C.1 dX12_share_9 0 rfl ?_
  refine x_bipush C.1 (n := 8) dX12_share_11 ?_
  refine x_icmp_ge_f C.1 (tgt := 94) dX12_share_13 (by decide) (by decide) (by decide) (by decide) ?_
  refine x_aload_n C.1 dX12_share_16 3 rfl ?_
  refine x_iload C.1 dX12_share_17 0 rfl ?_
  refine x_callVi C (As := [vI 7]) (rest := []) 0 (xw_at (N := 33) (i := 0) (by decide) rfl) vc_X12 (g_isPerson l D cy ad V J Rr hV hJ 7 (by decide) h76 h78 htp) (l1 := []) (l2 := []) (List.append_nil _).symm (w2 := fun _ => MW cy ad V J Rr) (fun _ => List.append_nil _) rfl wm_yX12_isPerson wn_X12 wl_X12_259 wi_yX12_isPerson we_yX12_isPerson hd_yX12_isPerson rfl ⟨Nat.le_of_ble_eq_true rfl, Nat.le_of_ble_eq_true rfl⟩ (Nat.le_of_ble_eq_true rfl) ⟨Nat.le_of_ble_eq_true rfl, Nat.le_of_ble_eq_true rfl⟩ dX12_share_19 (fun r8 u8 hr8 h8 => ?_)
  obtain rfl := h8
  refine x_if_ne_f C.1 (tgt := 28) dX12_share_22 (by decide) (by decide) (by decide) ?_
  refine x_goto C.1 (tgt := 88) dX12_share_25 (by decide) ?_
  refine x_iinc C.1 (v := 8) (lv' := [(5, vI 8), (4, vI (-2)), (3, vI 0), (0, .ref (ad 0)), (1, vI x1), (2, vI x2)]) (by decide) dX12_share_88 0 rfl (by decide) rfl ?_
  refine x_goto C.1 (tgt := 9) dX12_share_91 (by decide) ?_
  refine x_iload C.1 dX12_share_9 0 rfl ?_
  refine x_bipush C.1 (n := 8) dX12_share_11 ?_
  refine x_icmp_ge_t C.1 (tgt := 94) dX12_share_13 (by decide) (by decide) (by decide) (by decide) ?_
  refine x_iload_n C.1 dX12_share_94 4 rfl ?_
  refine x_iconst C.1 (n := -1) dX12_share_95 ?_
  refine x_icmp_ne C.1 (tgt := 110) dX12_share_96 (by decide) hx1 (by decide) (fun c96_9 => ?_) (fun c96_9 => ?_)
  · refine x_aload_n C.1 dX12_share_110 3 rfl ?_
    refine x_iload_n C.1 dX12_share_111 4 rfl ?_
    refine x_callVi C (As := [vI x1]) (rest := []) 0 (xw_at (N := 33) (i := 0) (by decide) rfl) vc_X12 (g_isPerson l D cy ad V J Rr hV hJ x1 hx1 h76 h78 htp) (l1 := []) (l2 := []) (List.append_nil _).symm (w2 := fun _ => MW cy ad V J Rr) (fun _ => List.append_nil _) rfl wm_yX12_isPerson wn_X12 wl_X12_259 wi_yX12_isPerson we_yX12_isPerson hd_yX12_isPerson rfl ⟨Nat.le_of_ble_eq_true rfl, Nat.le_of_ble_eq_true rfl⟩ (Nat.le_of_ble_eq_true rfl) ⟨Nat.le_of_ble_eq_true rfl, Nat.le_of_ble_eq_true rfl⟩ dX12_share_112 (fun r10 u10 hr10 h10 => ?_)
    obtain rfl := h10
    refine x_if_eq_t C.1 (tgt := 127) dX12_share_115 (by decide) (by decide) (by decide) ?_
    refine x_iconst C.1 (n := -1) dX12_share_127 ?_
    exact x_iret (S := Unit) (post := fun r _ => (x1 = -1 ∧ x2 = 0 ∧ r = -2) ∨ (¬ (x1 = -1 ∧ x2 = 0) ∧ r = -1)) (w1 := fun _ : Unit => MW cy ad V J Rr) (a := (-1)) C hr rfl dX12_share_128 (by decide) () rfl (by omega)
  · refine x_iload_n C.1 dX12_share_99 5 rfl ?_
    refine x_if_ne C.1 (tgt := 108) dX12_share_100 (by decide) hx2 (fun c100_11 => ?_) (fun c100_11 => ?_)
    · refine x_iconst C.1 (n := -1) dX12_share_108 ?_
      exact x_iret (S := Unit) (post := fun r _ => (x1 = -1 ∧ x2 = 0 ∧ r = -2) ∨ (¬ (x1 = -1 ∧ x2 = 0) ∧ r = -1)) (w1 := fun _ : Unit => MW cy ad V J Rr) (a := (-1)) C hr rfl dX12_share_109 (by decide) () rfl (by omega)
    · refine x_iload C.1 dX12_share_103 1 rfl ?_
      refine x_goto C.1 (tgt := 109) dX12_share_105 (by decide) ?_
      exact x_iret (S := Unit) (post := fun r _ => (x1 = -1 ∧ x2 = 0 ∧ r = -2) ∨ (¬ (x1 = -1 ∧ x2 = 0) ∧ r = -1)) (w1 := fun _ : Unit => MW cy ad V J Rr) (a := (-2)) C hr rfl dX12_share_109 (by decide) () rfl (by omega)
theorem dX12_spread_0 : decode cX12_spread 0 = .ok (.iload_n 1, 1) := by decide +kernel
theorem dX12_spread_1 : decode cX12_spread 1 = .ok (.iconst 0, 1) := by decide +kernel
theorem dX12_spread_2 : decode cX12_spread 2 = .ok (.bipush 24, 2) := by decide +kernel
theorem dX12_spread_4 : decode cX12_spread 4 = .ok (.invokestatic 126, 3) := by decide +kernel
theorem dX12_spread_7 : decode cX12_spread 7 = .ok (.ifCond .eq 18, 3) := by decide +kernel
theorem dX12_spread_10 : decode cX12_spread 10 = .ok (.iload_n 2, 1) := by decide +kernel
theorem dX12_spread_11 : decode cX12_spread 11 = .ok (.bipush 10, 2) := by decide +kernel
theorem dX12_spread_13 : decode cX12_spread 13 = .ok (.if_icmp .eq 14, 3) := by decide +kernel
theorem dX12_spread_16 : decode cX12_spread 16 = .ok (.iload_n 2, 1) := by decide +kernel
theorem dX12_spread_17 : decode cX12_spread 17 = .ok (.iconst 0, 1) := by decide +kernel
theorem dX12_spread_18 : decode cX12_spread 18 = .ok (.iconst 3, 1) := by decide +kernel
theorem dX12_spread_19 : decode cX12_spread 19 = .ok (.invokestatic 126, 3) := by decide +kernel
theorem dX12_spread_22 : decode cX12_spread 22 = .ok (.ifCond .ne 5, 3) := by decide +kernel
theorem dX12_spread_25 : decode cX12_spread 25 = .ok (.iconst (-1), 1) := by decide +kernel
theorem dX12_spread_26 : decode cX12_spread 26 = .ok (.ireturn, 1) := by decide +kernel
theorem dX12_spread_27 : decode cX12_spread 27 = .ok (.aload_n 0, 1) := by decide +kernel
theorem dX12_spread_28 : decode cX12_spread 28 = .ok (.getfield 7, 3) := by decide +kernel
theorem dX12_spread_31 : decode cX12_spread 31 = .ok (.bipush 76, 2) := by decide +kernel
theorem dX12_spread_33 : decode cX12_spread 33 = .ok (.iaload, 1) := by decide +kernel
theorem dX12_spread_34 : decode cX12_spread 34 = .ok (.aload_n 0, 1) := by decide +kernel
theorem dX12_spread_35 : decode cX12_spread 35 = .ok (.getfield 7, 3) := by decide +kernel
theorem dX12_spread_38 : decode cX12_spread 38 = .ok (.bipush 77, 2) := by decide +kernel
theorem dX12_spread_40 : decode cX12_spread 40 = .ok (.iaload, 1) := by decide +kernel
theorem dX12_spread_41 : decode cX12_spread 41 = .ok (.iconst (-1), 1) := by decide +kernel
theorem dX12_spread_42 : decode cX12_spread 42 = .ok (.ixor, 1) := by decide +kernel
theorem dX12_spread_43 : decode cX12_spread 43 = .ok (.iand, 1) := by decide +kernel
theorem dX12_spread_44 : decode cX12_spread 44 = .ok (.ifCond .ne 6, 3) := by decide +kernel
theorem dX12_spread_47 : decode cX12_spread 47 = .ok (.bipush (-2), 2) := by decide +kernel
theorem dX12_spread_49 : decode cX12_spread 49 = .ok (.ireturn, 1) := by decide +kernel
set_option maxHeartbeats 4000000 in
set_option maxRecDepth 100000 in
theorem g_spread (l : Launch) (D : va_G) (cy : Nat → ClassId) (ad : Nat → Nat) (V J : Nat → Nat → Int) (Rr : Nat → Nat → Nat) (hV : VR V) (hJ : VJ J) (x1 x2 : Int) (hx1 : R32 x1) (hx2 : R32 x2) (h76 : V 1 76 = 0) (h78 : V 1 78 = 0) (htp : V 0 4 = 0)  : xMi l D (xTY cy) yX12_spread cX12_spread 4 (some .int) 1 22 0 0 [.ref (ad 0), vI x1, vI x2] (MW cy ad V J Rr) (fun _ : Unit => MW cy ad V J Rr) (fun r _ => (0 ≤ x1 ∧ x1 ≤ 24 ∧ (0 ≤ x2 ∧ x2 < 4 ∨ x2 = 10) ∧ r = -2) ∨ (¬ (0 ≤ x1 ∧ x1 ≤ 24 ∧ (0 ≤ x2 ∧ x2 < 4 ∨ x2 = 10)) ∧ r = -1)) := by
  refine xMi.mk (lv0 := [(0, .ref (ad 0)), (1, vI x1), (2, vI x2)]) (by decide) rfl (Nat.le_of_ble_eq_true rfl) (fun p e s m below meth c A C hr hnm hAe => ?_)
  have C : xC2 p s m _ meth c D A s.heap 4 cX12_spread RX12 (xTY cy) := C
  refine x_iload_n C.1 dX12_spread_0 1 rfl ?_
  refine x_iconst C.1 (n := 0) dX12_spread_1 ?_
  refine x_bipush C.1 (n := 24) dX12_spread_2 ?_
  refine x_callSi C (As := [vI x1, vI 0, vI 24]) (rest := []) (c_in l D cy x1 0 24 hx1 (by decide) (by decide)) (l1 := []) (l2 := _) rfl (w2 := fun _ => _) (fun _ => rfl) rfl wm_yX12_in wn_X12 wl_X12_126 wi_yX12_in hd_yX12_in rfl ⟨Nat.le_of_ble_eq_true rfl, Nat.le_of_ble_eq_true rfl⟩ (Nat.le_of_ble_eq_true rfl) ⟨Nat.le_of_ble_eq_true rfl, Nat.le_of_ble_eq_true rfl⟩ dX12_spread_4 (fun r1 u1 hr1 h1 => ?_)
  rcases h1 with ⟨rfl, t1, t1b⟩ | ⟨rfl, t1⟩
  · refine x_if_eq_f C.1 (tgt := 25) dX12_spread_7 (by decide) (by decide) (by decide) ?_
    refine x_iload_n C.1 dX12_spread_10 2 rfl ?_
    refine x_bipush C.1 (n := 10) dX12_spread_11 ?_
    refine x_icmp_eq C.1 (tgt := 27) dX12_spread_13 (by decide) hx2 (by decide) (fun c13_2 => ?_) (fun c13_2 => ?_)
    · refine x_aload_n C.1 dX12_spread_27 0 rfl ?_
      refine x_getA C (N := 33) (i := 0) (by decide) rfl vc_X12 wx_X12 0 (by decide) wf_X12_7 (a := 1) rfl dX12_spread_28 ?_
      refine x_bipush C.1 (n := 76) dX12_spread_31 ?_
      refine x_iald C (N := 33) (i := 1) (q := 76) (by decide) rfl (by decide) (by decide) dX12_spread_33 (a := 0) h76 ?_
      refine x_aload_n C.1 dX12_spread_34 0 rfl ?_
      refine x_getA C (N := 33) (i := 0) (by decide) rfl vc_X12 wx_X12 0 (by decide) wf_X12_7 (a := 1) rfl dX12_spread_35 ?_
      refine x_bipush C.1 (n := 77) dX12_spread_38 ?_
      refine x_iald C (N := 33) (i := 1) (q := 77) (by decide) rfl (by decide) (by decide) dX12_spread_40 (a := V 1 77) rfl ?_
      refine x_iconst C.1 (n := -1) dX12_spread_41 ?_
      refine x_ixor C.1 (v := iXor (V 1 77) (-1)) rfl dX12_spread_42 ?_
      refine x_iand C.1 (v := 0) (iAnd_0 _) dX12_spread_43 ?_
      refine x_if_ne_f C.1 (tgt := 50) dX12_spread_44 (by decide) (by decide) (by decide) ?_
      refine x_bipush C.1 (n := -2) dX12_spread_47 ?_
      exact x_iret (S := Unit) (post := fun r _ => (0 ≤ x1 ∧ x1 ≤ 24 ∧ (0 ≤ x2 ∧ x2 < 4 ∨ x2 = 10) ∧ r = -2) ∨ (¬ (0 ≤ x1 ∧ x1 ≤ 24 ∧ (0 ≤ x2 ∧ x2 < 4 ∨ x2 = 10)) ∧ r = -1)) (w1 := fun _ : Unit => MW cy ad V J Rr) (a := (-2)) C hr rfl dX12_spread_49 (by decide) () rfl (by omega)
    · refine x_iload_n C.1 dX12_spread_16 2 rfl ?_
      refine x_iconst C.1 (n := 0) dX12_spread_17 ?_
      refine x_iconst C.1 (n := 3) dX12_spread_18 ?_
      refine x_callSi C (As := [vI x2, vI 0, vI 3]) (rest := []) (c_in l D cy x2 0 3 hx2 (by decide) (by decide)) (l1 := []) (l2 := _) rfl (w2 := fun _ => _) (fun _ => rfl) rfl wm_yX12_in wn_X12 wl_X12_126 wi_yX12_in hd_yX12_in rfl ⟨Nat.le_of_ble_eq_true rfl, Nat.le_of_ble_eq_true rfl⟩ (Nat.le_of_ble_eq_true rfl) ⟨Nat.le_of_ble_eq_true rfl, Nat.le_of_ble_eq_true rfl⟩ dX12_spread_19 (fun r3 u3 hr3 h3 => ?_)
      rcases h3 with ⟨rfl, t3, t3b⟩ | ⟨rfl, t3⟩
      · refine x_if_ne_t C.1 (tgt := 27) dX12_spread_22 (by decide) (by decide) (by decide) ?_
        refine x_aload_n C.1 dX12_spread_27 0 rfl ?_
        refine x_getA C (N := 33) (i := 0) (by decide) rfl vc_X12 wx_X12 0 (by decide) wf_X12_7 (a := 1) rfl dX12_spread_28 ?_
        refine x_bipush C.1 (n := 76) dX12_spread_31 ?_
        refine x_iald C (N := 33) (i := 1) (q := 76) (by decide) rfl (by decide) (by decide) dX12_spread_33 (a := 0) h76 ?_
        refine x_aload_n C.1 dX12_spread_34 0 rfl ?_
        refine x_getA C (N := 33) (i := 0) (by decide) rfl vc_X12 wx_X12 0 (by decide) wf_X12_7 (a := 1) rfl dX12_spread_35 ?_
        refine x_bipush C.1 (n := 77) dX12_spread_38 ?_
        refine x_iald C (N := 33) (i := 1) (q := 77) (by decide) rfl (by decide) (by decide) dX12_spread_40 (a := V 1 77) rfl ?_
        refine x_iconst C.1 (n := -1) dX12_spread_41 ?_
        refine x_ixor C.1 (v := iXor (V 1 77) (-1)) rfl dX12_spread_42 ?_
        refine x_iand C.1 (v := 0) (iAnd_0 _) dX12_spread_43 ?_
        refine x_if_ne_f C.1 (tgt := 50) dX12_spread_44 (by decide) (by decide) (by decide) ?_
        refine x_bipush C.1 (n := -2) dX12_spread_47 ?_
        exact x_iret (S := Unit) (post := fun r _ => (0 ≤ x1 ∧ x1 ≤ 24 ∧ (0 ≤ x2 ∧ x2 < 4 ∨ x2 = 10) ∧ r = -2) ∨ (¬ (0 ≤ x1 ∧ x1 ≤ 24 ∧ (0 ≤ x2 ∧ x2 < 4 ∨ x2 = 10)) ∧ r = -1)) (w1 := fun _ : Unit => MW cy ad V J Rr) (a := (-2)) C hr rfl dX12_spread_49 (by decide) () rfl (by omega)
      · refine x_if_ne_f C.1 (tgt := 27) dX12_spread_22 (by decide) (by decide) (by decide) ?_
        refine x_iconst C.1 (n := -1) dX12_spread_25 ?_
        exact x_iret (S := Unit) (post := fun r _ => (0 ≤ x1 ∧ x1 ≤ 24 ∧ (0 ≤ x2 ∧ x2 < 4 ∨ x2 = 10) ∧ r = -2) ∨ (¬ (0 ≤ x1 ∧ x1 ≤ 24 ∧ (0 ≤ x2 ∧ x2 < 4 ∨ x2 = 10)) ∧ r = -1)) (w1 := fun _ : Unit => MW cy ad V J Rr) (a := (-1)) C hr rfl dX12_spread_26 (by decide) () rfl (by omega)
  · refine x_if_eq_t C.1 (tgt := 25) dX12_spread_7 (by decide) (by decide) (by decide) ?_
    refine x_iconst C.1 (n := -1) dX12_spread_25 ?_
    exact x_iret (S := Unit) (post := fun r _ => (0 ≤ x1 ∧ x1 ≤ 24 ∧ (0 ≤ x2 ∧ x2 < 4 ∨ x2 = 10) ∧ r = -2) ∨ (¬ (0 ≤ x1 ∧ x1 ≤ 24 ∧ (0 ≤ x2 ∧ x2 < 4 ∨ x2 = 10)) ∧ r = -1)) (w1 := fun _ : Unit => MW cy ad V J Rr) (a := (-1)) C hr rfl dX12_spread_26 (by decide) () rfl (by omega)
theorem dX12_count_0 : decode cX12_count 0 = .ok (.iload_n 1, 1) := by decide +kernel
theorem dX12_count_1 : decode cX12_count 1 = .ok (.tableswitch 95 0 6 #[43, 51, 59, 67, 75, 82, 87], 43) := by decide +kernel
theorem dX12_count_44 : decode cX12_count 44 = .ok (.aload_n 0, 1) := by decide +kernel
theorem dX12_count_45 : decode cX12_count 45 = .ok (.getfield 7, 3) := by decide +kernel
theorem dX12_count_48 : decode cX12_count 48 = .ok (.bipush 79, 2) := by decide +kernel
theorem dX12_count_50 : decode cX12_count 50 = .ok (.iaload, 1) := by decide +kernel
theorem dX12_count_51 : decode cX12_count 51 = .ok (.ireturn, 1) := by decide +kernel
theorem dX12_count_52 : decode cX12_count 52 = .ok (.aload_n 0, 1) := by decide +kernel
theorem dX12_count_53 : decode cX12_count 53 = .ok (.getfield 7, 3) := by decide +kernel
theorem dX12_count_56 : decode cX12_count 56 = .ok (.bipush 76, 2) := by decide +kernel
theorem dX12_count_58 : decode cX12_count 58 = .ok (.iaload, 1) := by decide +kernel
theorem dX12_count_59 : decode cX12_count 59 = .ok (.ireturn, 1) := by decide +kernel
theorem dX12_count_60 : decode cX12_count 60 = .ok (.aload_n 0, 1) := by decide +kernel
theorem dX12_count_61 : decode cX12_count 61 = .ok (.getfield 7, 3) := by decide +kernel
theorem dX12_count_64 : decode cX12_count 64 = .ok (.bipush 77, 2) := by decide +kernel
theorem dX12_count_66 : decode cX12_count 66 = .ok (.iaload, 1) := by decide +kernel
theorem dX12_count_67 : decode cX12_count 67 = .ok (.ireturn, 1) := by decide +kernel
theorem dX12_count_68 : decode cX12_count 68 = .ok (.aload_n 0, 1) := by decide +kernel
theorem dX12_count_69 : decode cX12_count 69 = .ok (.getfield 7, 3) := by decide +kernel
theorem dX12_count_72 : decode cX12_count 72 = .ok (.bipush 78, 2) := by decide +kernel
theorem dX12_count_74 : decode cX12_count 74 = .ok (.iaload, 1) := by decide +kernel
theorem dX12_count_75 : decode cX12_count 75 = .ok (.ireturn, 1) := by decide +kernel
theorem dX12_count_76 : decode cX12_count 76 = .ok (.aload_n 0, 1) := by decide +kernel
theorem dX12_count_77 : decode cX12_count 77 = .ok (.getfield 44, 3) := by decide +kernel
theorem dX12_count_80 : decode cX12_count 80 = .ok (.iconst 0, 1) := by decide +kernel
theorem dX12_count_81 : decode cX12_count 81 = .ok (.iaload, 1) := by decide +kernel
theorem dX12_count_82 : decode cX12_count 82 = .ok (.ireturn, 1) := by decide +kernel
theorem dX12_count_83 : decode cX12_count 83 = .ok (.aload_n 0, 1) := by decide +kernel
theorem dX12_count_84 : decode cX12_count 84 = .ok (.getfield 137, 3) := by decide +kernel
theorem dX12_count_87 : decode cX12_count 87 = .ok (.ireturn, 1) := by decide +kernel
theorem dX12_count_88 : decode cX12_count 88 = .ok (.aload_n 0, 1) := by decide +kernel
theorem dX12_count_89 : decode cX12_count 89 = .ok (.getfield 7, 3) := by decide +kernel
theorem dX12_count_92 : decode cX12_count 92 = .ok (.bipush 80, 2) := by decide +kernel
theorem dX12_count_94 : decode cX12_count 94 = .ok (.iaload, 1) := by decide +kernel
theorem dX12_count_95 : decode cX12_count 95 = .ok (.ireturn, 1) := by decide +kernel
theorem dX12_count_96 : decode cX12_count 96 = .ok (.iload_n 1, 1) := by decide +kernel
theorem dX12_count_97 : decode cX12_count 97 = .ok (.bipush 10, 2) := by decide +kernel
theorem dX12_count_99 : decode cX12_count 99 = .ok (.bipush 13, 2) := by decide +kernel
theorem dX12_count_101 : decode cX12_count 101 = .ok (.invokestatic 126, 3) := by decide +kernel
theorem dX12_count_104 : decode cX12_count 104 = .ok (.ifCond .eq 13, 3) := by decide +kernel
theorem dX12_count_107 : decode cX12_count 107 = .ok (.aload_n 0, 1) := by decide +kernel
theorem dX12_count_108 : decode cX12_count 108 = .ok (.getfield 44, 3) := by decide +kernel
theorem dX12_count_111 : decode cX12_count 111 = .ok (.iload_n 1, 1) := by decide +kernel
theorem dX12_count_112 : decode cX12_count 112 = .ok (.bipush 9, 2) := by decide +kernel
theorem dX12_count_114 : decode cX12_count 114 = .ok (.isub, 1) := by decide +kernel
theorem dX12_count_115 : decode cX12_count 115 = .ok (.iaload, 1) := by decide +kernel
theorem dX12_count_116 : decode cX12_count 116 = .ok (.ireturn, 1) := by decide +kernel
theorem dX12_count_117 : decode cX12_count 117 = .ok (.iload_n 1, 1) := by decide +kernel
theorem dX12_count_118 : decode cX12_count 118 = .ok (.bipush 20, 2) := by decide +kernel
theorem dX12_count_120 : decode cX12_count 120 = .ok (.bipush 27, 2) := by decide +kernel
theorem dX12_count_122 : decode cX12_count 122 = .ok (.invokestatic 126, 3) := by decide +kernel
theorem dX12_count_125 : decode cX12_count 125 = .ok (.ifCond .eq 27, 3) := by decide +kernel
theorem dX12_count_128 : decode cX12_count 128 = .ok (.aload_n 0, 1) := by decide +kernel
theorem dX12_count_129 : decode cX12_count 129 = .ok (.iload_n 1, 1) := by decide +kernel
theorem dX12_count_130 : decode cX12_count 130 = .ok (.bipush 20, 2) := by decide +kernel
theorem dX12_count_132 : decode cX12_count 132 = .ok (.isub, 1) := by decide +kernel
theorem dX12_count_133 : decode cX12_count 133 = .ok (.invokevirtual 259, 3) := by decide +kernel
theorem dX12_count_136 : decode cX12_count 136 = .ok (.ifCond .eq 16, 3) := by decide +kernel
theorem dX12_count_152 : decode cX12_count 152 = .ok (.iload_n 1, 1) := by decide +kernel
theorem dX12_count_153 : decode cX12_count 153 = .ok (.bipush 30, 2) := by decide +kernel
theorem dX12_count_155 : decode cX12_count 155 = .ok (.bipush 37, 2) := by decide +kernel
theorem dX12_count_157 : decode cX12_count 157 = .ok (.invokestatic 126, 3) := by decide +kernel
theorem dX12_count_160 : decode cX12_count 160 = .ok (.ifCond .eq 27, 3) := by decide +kernel
theorem dX12_count_163 : decode cX12_count 163 = .ok (.aload_n 0, 1) := by decide +kernel
theorem dX12_count_164 : decode cX12_count 164 = .ok (.iload_n 1, 1) := by decide +kernel
theorem dX12_count_165 : decode cX12_count 165 = .ok (.bipush 30, 2) := by decide +kernel
theorem dX12_count_167 : decode cX12_count 167 = .ok (.isub, 1) := by decide +kernel
theorem dX12_count_168 : decode cX12_count 168 = .ok (.invokevirtual 259, 3) := by decide +kernel
theorem dX12_count_171 : decode cX12_count 171 = .ok (.ifCond .eq 16, 3) := by decide +kernel
theorem dX12_count_187 : decode cX12_count 187 = .ok (.iload_n 1, 1) := by decide +kernel
theorem dX12_count_188 : decode cX12_count 188 = .ok (.bipush 40, 2) := by decide +kernel
theorem dX12_count_190 : decode cX12_count 190 = .ok (.bipush 47, 2) := by decide +kernel
theorem dX12_count_192 : decode cX12_count 192 = .ok (.invokestatic 126, 3) := by decide +kernel
theorem dX12_count_195 : decode cX12_count 195 = .ok (.ifCond .eq 29, 3) := by decide +kernel
theorem dX12_count_198 : decode cX12_count 198 = .ok (.aload_n 0, 1) := by decide +kernel
theorem dX12_count_199 : decode cX12_count 199 = .ok (.iload_n 1, 1) := by decide +kernel
theorem dX12_count_200 : decode cX12_count 200 = .ok (.bipush 40, 2) := by decide +kernel
theorem dX12_count_202 : decode cX12_count 202 = .ok (.isub, 1) := by decide +kernel
theorem dX12_count_203 : decode cX12_count 203 = .ok (.invokevirtual 259, 3) := by decide +kernel
theorem dX12_count_206 : decode cX12_count 206 = .ok (.ifCond .eq 18, 3) := by decide +kernel
theorem dX12_count_224 : decode cX12_count 224 = .ok (.iconst (-1), 1) := by decide +kernel
theorem dX12_count_225 : decode cX12_count 225 = .ok (.ireturn, 1) := by decide +kernel
set_option maxHeartbeats 4000000 in
set_option maxRecDepth 100000 in
theorem g_count (l : Launch) (D : va_G) (cy : Nat → ClassId) (ad : Nat → Nat) (V J : Nat → Nat → Int) (Rr : Nat → Nat → Nat) (hV : VR V) (hJ : VJ J) (x1 : Int) (hx1 : R32 x1) (h76 : V 1 76 = 0) (h78 : V 1 78 = 0) (htp : V 0 4 = 0) (h77 : V 1 77 = 0) (h79 : V 1 79 = 0) (h80 : V 1 80 = 1) (hcm : ∀ k, V 12 k = 0) : xMi l D (xTY cy) yX12_count cX12_count 2 (some .int) 2 42 0 0 [.ref (ad 0), vI x1] (MW cy ad V J Rr) (fun _ : Unit => MW cy ad V J Rr) (fun r _ => (x1 = 6 ∧ r = 1) ∨ ((0 ≤ x1 ∧ x1 ≤ 5 ∨ 10 ≤ x1 ∧ x1 ≤ 13) ∧ r = 0) ∨ (¬ (0 ≤ x1 ∧ x1 ≤ 6 ∨ 10 ≤ x1 ∧ x1 ≤ 13) ∧ r = -1)) := by
  refine xMi.mk (lv0 := [(0, .ref (ad 0)), (1, vI x1)]) (by decide) rfl (Nat.le_of_ble_eq_true rfl) (fun p e s m below meth c A C hr hnm hAe => ?_)
  have C : xC2 p s m _ meth c D A s.heap 2 cX12_count RX12 (xTY cy) := C
  refine x_iload_n C.1 dX12_count_0 1 rfl ?_
  by_cases hs1_1 : x1 = 0
  · refine x_tabIn C.1 0 hs1_1 (by decide) (tgt := 44) dX12_count_1 (by decide) (by decide) rfl (by decide) ?_
    refine x_aload_n C.1 dX12_count_44 0 rfl ?_
    refine x_getA C (N := 33) (i := 0) (by decide) rfl vc_X12 wx_X12 0 (by decide) wf_X12_7 (a := 1) rfl dX12_count_45 ?_
    refine x_bipush C.1 (n := 79) dX12_count_48 ?_
    refine x_iald C (N := 33) (i := 1) (q := 79) (by decide) rfl (by decide) (by decide) dX12_count_50 (a := 0) h79 ?_
    exact x_iret (S := Unit) (post := fun r _ => (x1 = 6 ∧ r = 1) ∨ ((0 ≤ x1 ∧ x1 ≤ 5 ∨ 10 ≤ x1 ∧ x1 ≤ 13) ∧ r = 0) ∨ (¬ (0 ≤ x1 ∧ x1 ≤ 6 ∨ 10 ≤ x1 ∧ x1 ≤ 13) ∧ r = -1)) (w1 := fun _ : Unit => MW cy ad V J Rr) (a := 0) C hr rfl dX12_count_51 (by decide) () rfl (by omega)
  by_cases hs1_2 : x1 = 1
  · refine x_tabIn C.1 1 hs1_2 (by decide) (tgt := 52) dX12_count_1 (by decide) (by decide) rfl (by decide) ?_
    refine x_aload_n C.1 dX12_count_52 0 rfl ?_
    refine x_getA C (N := 33) (i := 0) (by decide) rfl vc_X12 wx_X12 0 (by decide) wf_X12_7 (a := 1) rfl dX12_count_53 ?_
    refine x_bipush C.1 (n := 76) dX12_count_56 ?_
    refine x_iald C (N := 33) (i := 1) (q := 76) (by decide) rfl (by decide) (by decide) dX12_count_58 (a := 0) h76 ?_
    exact x_iret (S := Unit) (post := fun r _ => (x1 = 6 ∧ r = 1) ∨ ((0 ≤ x1 ∧ x1 ≤ 5 ∨ 10 ≤ x1 ∧ x1 ≤ 13) ∧ r = 0) ∨ (¬ (0 ≤ x1 ∧ x1 ≤ 6 ∨ 10 ≤ x1 ∧ x1 ≤ 13) ∧ r = -1)) (w1 := fun _ : Unit => MW cy ad V J Rr) (a := 0) C hr rfl dX12_count_59 (by decide) () rfl (by omega)
  by_cases hs1_3 : x1 = 2
  · refine x_tabIn C.1 2 hs1_3 (by decide) (tgt := 60) dX12_count_1 (by decide) (by decide) rfl (by decide) ?_
    refine x_aload_n C.1 dX12_count_60 0 rfl ?_
    refine x_getA C (N := 33) (i := 0) (by decide) rfl vc_X12 wx_X12 0 (by decide) wf_X12_7 (a := 1) rfl dX12_count_61 ?_
    refine x_bipush C.1 (n := 77) dX12_count_64 ?_
    refine x_iald C (N := 33) (i := 1) (q := 77) (by decide) rfl (by decide) (by decide) dX12_count_66 (a := 0) h77 ?_
    exact x_iret (S := Unit) (post := fun r _ => (x1 = 6 ∧ r = 1) ∨ ((0 ≤ x1 ∧ x1 ≤ 5 ∨ 10 ≤ x1 ∧ x1 ≤ 13) ∧ r = 0) ∨ (¬ (0 ≤ x1 ∧ x1 ≤ 6 ∨ 10 ≤ x1 ∧ x1 ≤ 13) ∧ r = -1)) (w1 := fun _ : Unit => MW cy ad V J Rr) (a := 0) C hr rfl dX12_count_67 (by decide) () rfl (by omega)
  by_cases hs1_4 : x1 = 3
  · refine x_tabIn C.1 3 hs1_4 (by decide) (tgt := 68) dX12_count_1 (by decide) (by decide) rfl (by decide) ?_
    refine x_aload_n C.1 dX12_count_68 0 rfl ?_
    refine x_getA C (N := 33) (i := 0) (by decide) rfl vc_X12 wx_X12 0 (by decide) wf_X12_7 (a := 1) rfl dX12_count_69 ?_
    refine x_bipush C.1 (n := 78) dX12_count_72 ?_
    refine x_iald C (N := 33) (i := 1) (q := 78) (by decide) rfl (by decide) (by decide) dX12_count_74 (a := 0) h78 ?_
    exact x_iret (S := Unit) (post := fun r _ => (x1 = 6 ∧ r = 1) ∨ ((0 ≤ x1 ∧ x1 ≤ 5 ∨ 10 ≤ x1 ∧ x1 ≤ 13) ∧ r = 0) ∨ (¬ (0 ≤ x1 ∧ x1 ≤ 6 ∨ 10 ≤ x1 ∧ x1 ≤ 13) ∧ r = -1)) (w1 := fun _ : Unit => MW cy ad V J Rr) (a := 0) C hr rfl dX12_count_75 (by decide) () rfl (by omega)
  by_cases hs1_5 : x1 = 4
  · refine x_tabIn C.1 4 hs1_5 (by decide) (tgt := 76) dX12_count_1 (by decide) (by decide) rfl (by decide) ?_
    refine x_aload_n C.1 dX12_count_76 0 rfl ?_
    refine x_getA C (N := 33) (i := 0) (by decide) rfl vc_X12 wx_X12 20 (by decide) wf_X12_44 (a := 12) rfl dX12_count_77 ?_
    refine x_iconst C.1 (n := 0) dX12_count_80 ?_
    refine x_iald C (N := 33) (i := 12) (q := 0) (by decide) rfl (by decide) (by decide) dX12_count_81 (a := 0) (hcm _) ?_
    exact x_iret (S := Unit) (post := fun r _ => (x1 = 6 ∧ r = 1) ∨ ((0 ≤ x1 ∧ x1 ≤ 5 ∨ 10 ≤ x1 ∧ x1 ≤ 13) ∧ r = 0) ∨ (¬ (0 ≤ x1 ∧ x1 ≤ 6 ∨ 10 ≤ x1 ∧ x1 ≤ 13) ∧ r = -1)) (w1 := fun _ : Unit => MW cy ad V J Rr) (a := 0) C hr rfl dX12_count_82 (by decide) () rfl (by omega)
  by_cases hs1_6 : x1 = 5
  · refine x_tabIn C.1 5 hs1_6 (by decide) (tgt := 83) dX12_count_1 (by decide) (by decide) rfl (by decide) ?_
    refine x_aload_n C.1 dX12_count_83 0 rfl ?_
    refine x_getI C (N := 33) (i := 0) (by decide) rfl vc_X12 wx_X12 4 (by decide) wf_X12_137 rfl dX12_count_84 (a := 0) htp ?_
    exact x_iret (S := Unit) (post := fun r _ => (x1 = 6 ∧ r = 1) ∨ ((0 ≤ x1 ∧ x1 ≤ 5 ∨ 10 ≤ x1 ∧ x1 ≤ 13) ∧ r = 0) ∨ (¬ (0 ≤ x1 ∧ x1 ≤ 6 ∨ 10 ≤ x1 ∧ x1 ≤ 13) ∧ r = -1)) (w1 := fun _ : Unit => MW cy ad V J Rr) (a := 0) C hr rfl dX12_count_87 (by decide) () rfl (by omega)
  by_cases hs1_7 : x1 = 6
  · refine x_tabIn C.1 6 hs1_7 (by decide) (tgt := 88) dX12_count_1 (by decide) (by decide) rfl (by decide) ?_
    refine x_aload_n C.1 dX12_count_88 0 rfl ?_
    refine x_getA C (N := 33) (i := 0) (by decide) rfl vc_X12 wx_X12 0 (by decide) wf_X12_7 (a := 1) rfl dX12_count_89 ?_
    refine x_bipush C.1 (n := 80) dX12_count_92 ?_
    refine x_iald C (N := 33) (i := 1) (q := 80) (by decide) rfl (by decide) (by decide) dX12_count_94 (a := 1) h80 ?_
    exact x_iret (S := Unit) (post := fun r _ => (x1 = 6 ∧ r = 1) ∨ ((0 ≤ x1 ∧ x1 ≤ 5 ∨ 10 ≤ x1 ∧ x1 ≤ 13) ∧ r = 0) ∨ (¬ (0 ≤ x1 ∧ x1 ≤ 6 ∨ 10 ≤ x1 ∧ x1 ≤ 13) ∧ r = -1)) (w1 := fun _ : Unit => MW cy ad V J Rr) (a := 1) C hr rfl dX12_count_95 (by decide) () rfl (by omega)
  refine x_tabOut C.1 (tgt := 96) hx1 dX12_count_1 (by omega) (by decide) ?_
  refine x_iload_n C.1 dX12_count_96 1 rfl ?_
  refine x_bipush C.1 (n := 10) dX12_count_97 ?_
  refine x_bipush C.1 (n := 13) dX12_count_99 ?_
  refine x_callSi C (As := [vI x1, vI 10, vI 13]) (rest := []) (c_in l D cy x1 10 13 hx1 (by decide) (by decide)) (l1 := []) (l2 := _) rfl (w2 := fun _ => _) (fun _ => rfl) rfl wm_yX12_in wn_X12 wl_X12_126 wi_yX12_in hd_yX12_in rfl ⟨Nat.le_of_ble_eq_true rfl, Nat.le_of_ble_eq_true rfl⟩ (Nat.le_of_ble_eq_true rfl) ⟨Nat.le_of_ble_eq_true rfl, Nat.le_of_ble_eq_true rfl⟩ dX12_count_101 (fun r8 u8 hr8 h8 => ?_)
  rcases h8 with ⟨rfl, t8, t8b⟩ | ⟨rfl, t8⟩
  · refine x_if_eq_f C.1 (tgt := 117) dX12_count_104 (by decide) (by decide) (by decide) ?_
    refine x_aload_n C.1 dX12_count_107 0 rfl ?_
    refine x_getA C (N := 33) (i := 0) (by decide) rfl vc_X12 wx_X12 20 (by decide) wf_X12_44 (a := 12) rfl dX12_count_108 ?_
    refine x_iload_n C.1 dX12_count_111 1 rfl ?_
    refine x_bipush C.1 (n := 9) dX12_count_112 ?_
    refine x_isub C.1 (v := x1 - 9) rfl dX12_count_114 ?_
    refine x_iald C (N := 33) (i := 12) (q := x1 - 9) (by decide) rfl (by omega) (by decide) dX12_count_115 (a := 0) (hcm _) ?_
    exact x_iret (S := Unit) (post := fun r _ => (x1 = 6 ∧ r = 1) ∨ ((0 ≤ x1 ∧ x1 ≤ 5 ∨ 10 ≤ x1 ∧ x1 ≤ 13) ∧ r = 0) ∨ (¬ (0 ≤ x1 ∧ x1 ≤ 6 ∨ 10 ≤ x1 ∧ x1 ≤ 13) ∧ r = -1)) (w1 := fun _ : Unit => MW cy ad V J Rr) (a := 0) C hr rfl dX12_count_116 (by decide) () rfl (by omega)
  · refine x_if_eq_t C.1 (tgt := 117) dX12_count_104 (by decide) (by decide) (by decide) ?_
    refine x_iload_n C.1 dX12_count_117 1 rfl ?_
    refine x_bipush C.1 (n := 20) dX12_count_118 ?_
    refine x_bipush C.1 (n := 27) dX12_count_120 ?_
    refine x_callSi C (As := [vI x1, vI 20, vI 27]) (rest := []) (c_in l D cy x1 20 27 hx1 (by decide) (by decide)) (l1 := []) (l2 := _) rfl (w2 := fun _ => _) (fun _ => rfl) rfl wm_yX12_in wn_X12 wl_X12_126 wi_yX12_in hd_yX12_in rfl ⟨Nat.le_of_ble_eq_true rfl, Nat.le_of_ble_eq_true rfl⟩ (Nat.le_of_ble_eq_true rfl) ⟨Nat.le_of_ble_eq_true rfl, Nat.le_of_ble_eq_true rfl⟩ dX12_count_122 (fun r9 u9 hr9 h9 => ?_)
    rcases h9 with ⟨rfl, t9, t9b⟩ | ⟨rfl, t9⟩
    · refine x_if_eq_f C.1 (tgt := 152) dX12_count_125 (by decide) (by decide) (by decide) ?_
      refine x_aload_n C.1 dX12_count_128 0 rfl ?_
      refine x_iload_n C.1 dX12_count_129 1 rfl ?_
      refine x_bipush C.1 (n := 20) dX12_count_130 ?_
      refine x_isub C.1 (v := x1 - 20) rfl dX12_count_132 ?_
      refine x_callVi C (As := [vI (x1 - 20)]) (rest := []) 0 (xw_at (N := 33) (i := 0) (by decide) rfl) vc_X12 (g_isPerson l D cy ad V J Rr hV hJ (x1 - 20) (by omega) h76 h78 htp) (l1 := []) (l2 := []) (List.append_nil _).symm (w2 := fun _ => MW cy ad V J Rr) (fun _ => List.append_nil _) rfl wm_yX12_isPerson wn_X12 wl_X12_259 wi_yX12_isPerson we_yX12_isPerson hd_yX12_isPerson rfl ⟨Nat.le_of_ble_eq_true rfl, Nat.le_of_ble_eq_true rfl⟩ (Nat.le_of_ble_eq_true rfl) ⟨Nat.le_of_ble_eq_true rfl, Nat.le_of_ble_eq_true rfl⟩ dX12_count_133 (fun r10 u10 hr10 h10 => ?_)
      obtain rfl := h10
      refine x_if_eq_t C.1 (tgt := 152) dX12_count_136 (by decide) (by decide) (by decide) ?_
      refine x_iload_n C.1 dX12_count_152 1 rfl ?_
      refine x_bipush C.1 (n := 30) dX12_count_153 ?_
      refine x_bipush C.1 (n := 37) dX12_count_155 ?_
      refine x_callSi C (As := [vI x1, vI 30, vI 37]) (rest := []) (c_in l D cy x1 30 37 hx1 (by decide) (by decide)) (l1 := []) (l2 := _) rfl (w2 := fun _ => _) (fun _ => rfl) rfl wm_yX12_in wn_X12 wl_X12_126 wi_yX12_in hd_yX12_in rfl ⟨Nat.le_of_ble_eq_true rfl, Nat.le_of_ble_eq_true rfl⟩ (Nat.le_of_ble_eq_true rfl) ⟨Nat.le_of_ble_eq_true rfl, Nat.le_of_ble_eq_true rfl⟩ dX12_count_157 (fun r11 u11 hr11 h11 => ?_)
      rcases h11 with ⟨rfl, t11, t11b⟩ | ⟨rfl, t11⟩
      · refine x_if_eq_f C.1 (tgt := 187) dX12_count_160 (by decide) (by decide) (by decide) ?_
        refine x_aload_n C.1 dX12_count_163 0 rfl ?_
        refine x_iload_n C.1 dX12_count_164 1 rfl ?_
        refine x_bipush C.1 (n := 30) dX12_count_165 ?_
        refine x_isub C.1 (v := x1 - 30) rfl dX12_count_167 ?_
        refine x_callVi C (As := [vI (x1 - 30)]) (rest := []) 0 (xw_at (N := 33) (i := 0) (by decide) rfl) vc_X12 (g_isPerson l D cy ad V J Rr hV hJ (x1 - 30) (by omega) h76 h78 htp) (l1 := []) (l2 := []) (List.append_nil _).symm (w2 := fun _ => MW cy ad V J Rr) (fun _ => List.append_nil _) rfl wm_yX12_isPerson wn_X12 wl_X12_259 wi_yX12_isPerson we_yX12_isPerson hd_yX12_isPerson rfl ⟨Nat.le_of_ble_eq_true rfl, Nat.le_of_ble_eq_true rfl⟩ (Nat.le_of_ble_eq_true rfl) ⟨Nat.le_of_ble_eq_true rfl, Nat.le_of_ble_eq_true rfl⟩ dX12_count_168 (fun r12 u12 hr12 h12 => ?_)
        obtain rfl := h12
        refine x_if_eq_t C.1 (tgt := 187) dX12_count_171 (by decide) (by decide) (by decide) ?_
        refine x_iload_n C.1 dX12_count_187 1 rfl ?_
        refine x_bipush C.1 (n := 40) dX12_count_188 ?_
        refine x_bipush C.1 (n := 47) dX12_count_190 ?_
        refine x_callSi C (As := [vI x1, vI 40, vI 47]) (rest := []) (c_in l D cy x1 40 47 hx1 (by decide) (by decide)) (l1 := []) (l2 := _) rfl (w2 := fun _ => _) (fun _ => rfl) rfl wm_yX12_in wn_X12 wl_X12_126 wi_yX12_in hd_yX12_in rfl ⟨Nat.le_of_ble_eq_true rfl, Nat.le_of_ble_eq_true rfl⟩ (Nat.le_of_ble_eq_true rfl) ⟨Nat.le_of_ble_eq_true rfl, Nat.le_of_ble_eq_true rfl⟩ dX12_count_192 (fun r13 u13 hr13 h13 => ?_)
        rcases h13 with ⟨rfl, t13, t13b⟩ | ⟨rfl, t13⟩
        · refine x_if_eq_f C.1 (tgt := 224) dX12_count_195 (by decide) (by decide) (by decide) ?_
          refine x_aload_n C.1 dX12_count_198 0 rfl ?_
          refine x_iload_n C.1 dX12_count_199 1 rfl ?_
          refine x_bipush C.1 (n := 40) dX12_count_200 ?_
          refine x_isub C.1 (v := x1 - 40) rfl dX12_count_202 ?_
          refine x_callVi C (As := [vI (x1 - 40)]) (rest := []) 0 (xw_at (N := 33) (i := 0) (by decide) rfl) vc_X12 (g_isPerson l D cy ad V J Rr hV hJ (x1 - 40) (by omega) h76 h78 htp) (l1 := []) (l2 := []) (List.append_nil _).symm (w2 := fun _ => MW cy ad V J Rr) (fun _ => List.append_nil _) rfl wm_yX12_isPerson wn_X12 wl_X12_259 wi_yX12_isPerson we_yX12_isPerson hd_yX12_isPerson rfl ⟨Nat.le_of_ble_eq_true rfl, Nat.le_of_ble_eq_true rfl⟩ (Nat.le_of_ble_eq_true rfl) ⟨Nat.le_of_ble_eq_true rfl, Nat.le_of_ble_eq_true rfl⟩ dX12_count_203 (fun r14 u14 hr14 h14 => ?_)
          obtain rfl := h14
          refine x_if_eq_t C.1 (tgt := 224) dX12_count_206 (by decide) (by decide) (by decide) ?_
          refine x_iconst C.1 (n := -1) dX12_count_224 ?_
          exact x_iret (S := Unit) (post := fun r _ => (x1 = 6 ∧ r = 1) ∨ ((0 ≤ x1 ∧ x1 ≤ 5 ∨ 10 ≤ x1 ∧ x1 ≤ 13) ∧ r = 0) ∨ (¬ (0 ≤ x1 ∧ x1 ≤ 6 ∨ 10 ≤ x1 ∧ x1 ≤ 13) ∧ r = -1)) (w1 := fun _ : Unit => MW cy ad V J Rr) (a := (-1)) C hr rfl dX12_count_225 (by decide) () rfl (by omega)
        · refine x_if_eq_t C.1 (tgt := 224) dX12_count_195 (by decide) (by decide) (by decide) ?_
          refine x_iconst C.1 (n := -1) dX12_count_224 ?_
          exact x_iret (S := Unit) (post := fun r _ => (x1 = 6 ∧ r = 1) ∨ ((0 ≤ x1 ∧ x1 ≤ 5 ∨ 10 ≤ x1 ∧ x1 ≤ 13) ∧ r = 0) ∨ (¬ (0 ≤ x1 ∧ x1 ≤ 6 ∨ 10 ≤ x1 ∧ x1 ≤ 13) ∧ r = -1)) (w1 := fun _ : Unit => MW cy ad V J Rr) (a := (-1)) C hr rfl dX12_count_225 (by decide) () rfl (by omega)
      · refine x_if_eq_t C.1 (tgt := 187) dX12_count_160 (by decide) (by decide) (by decide) ?_
        refine x_iload_n C.1 dX12_count_187 1 rfl ?_
        refine x_bipush C.1 (n := 40) dX12_count_188 ?_
        refine x_bipush C.1 (n := 47) dX12_count_190 ?_
        refine x_callSi C (As := [vI x1, vI 40, vI 47]) (rest := []) (c_in l D cy x1 40 47 hx1 (by decide) (by decide)) (l1 := []) (l2 := _) rfl (w2 := fun _ => _) (fun _ => rfl) rfl wm_yX12_in wn_X12 wl_X12_126 wi_yX12_in hd_yX12_in rfl ⟨Nat.le_of_ble_eq_true rfl, Nat.le_of_ble_eq_true rfl⟩ (Nat.le_of_ble_eq_true rfl) ⟨Nat.le_of_ble_eq_true rfl, Nat.le_of_ble_eq_true rfl⟩ dX12_count_192 (fun r15 u15 hr15 h15 => ?_)
        rcases h15 with ⟨rfl, t15, t15b⟩ | ⟨rfl, t15⟩
        · refine x_if_eq_f C.1 (tgt := 224) dX12_count_195 (by decide) (by decide) (by decide) ?_
          refine x_aload_n C.1 dX12_count_198 0 rfl ?_
          refine x_iload_n C.1 dX12_count_199 1 rfl ?_
          refine x_bipush C.1 (n := 40) dX12_count_200 ?_
          refine x_isub C.1 (v := x1 - 40) rfl dX12_count_202 ?_
          refine x_callVi C (As := [vI (x1 - 40)]) (rest := []) 0 (xw_at (N := 33) (i := 0) (by decide) rfl) vc_X12 (g_isPerson l D cy ad V J Rr hV hJ (x1 - 40) (by omega) h76 h78 htp) (l1 := []) (l2 := []) (List.append_nil _).symm (w2 := fun _ => MW cy ad V J Rr) (fun _ => List.append_nil _) rfl wm_yX12_isPerson wn_X12 wl_X12_259 wi_yX12_isPerson we_yX12_isPerson hd_yX12_isPerson rfl ⟨Nat.le_of_ble_eq_true rfl, Nat.le_of_ble_eq_true rfl⟩ (Nat.le_of_ble_eq_true rfl) ⟨Nat.le_of_ble_eq_true rfl, Nat.le_of_ble_eq_true rfl⟩ dX12_count_203 (fun r16 u16 hr16 h16 => ?_)
          obtain rfl := h16
          refine x_if_eq_t C.1 (tgt := 224) dX12_count_206 (by decide) (by decide) (by decide) ?_
          refine x_iconst C.1 (n := -1) dX12_count_224 ?_
          exact x_iret (S := Unit) (post := fun r _ => (x1 = 6 ∧ r = 1) ∨ ((0 ≤ x1 ∧ x1 ≤ 5 ∨ 10 ≤ x1 ∧ x1 ≤ 13) ∧ r = 0) ∨ (¬ (0 ≤ x1 ∧ x1 ≤ 6 ∨ 10 ≤ x1 ∧ x1 ≤ 13) ∧ r = -1)) (w1 := fun _ : Unit => MW cy ad V J Rr) (a := (-1)) C hr rfl dX12_count_225 (by decide) () rfl (by omega)
        · refine x_if_eq_t C.1 (tgt := 224) dX12_count_195 (by decide) (by decide) (by decide) ?_
          refine x_iconst C.1 (n := -1) dX12_count_224 ?_
          exact x_iret (S := Unit) (post := fun r _ => (x1 = 6 ∧ r = 1) ∨ ((0 ≤ x1 ∧ x1 ≤ 5 ∨ 10 ≤ x1 ∧ x1 ≤ 13) ∧ r = 0) ∨ (¬ (0 ≤ x1 ∧ x1 ≤ 6 ∨ 10 ≤ x1 ∧ x1 ≤ 13) ∧ r = -1)) (w1 := fun _ : Unit => MW cy ad V J Rr) (a := (-1)) C hr rfl dX12_count_225 (by decide) () rfl (by omega)
    · refine x_if_eq_t C.1 (tgt := 152) dX12_count_125 (by decide) (by decide) (by decide) ?_
      refine x_iload_n C.1 dX12_count_152 1 rfl ?_
      refine x_bipush C.1 (n := 30) dX12_count_153 ?_
      refine x_bipush C.1 (n := 37) dX12_count_155 ?_
      refine x_callSi C (As := [vI x1, vI 30, vI 37]) (rest := []) (c_in l D cy x1 30 37 hx1 (by decide) (by decide)) (l1 := []) (l2 := _) rfl (w2 := fun _ => _) (fun _ => rfl) rfl wm_yX12_in wn_X12 wl_X12_126 wi_yX12_in hd_yX12_in rfl ⟨Nat.le_of_ble_eq_true rfl, Nat.le_of_ble_eq_true rfl⟩ (Nat.le_of_ble_eq_true rfl) ⟨Nat.le_of_ble_eq_true rfl, Nat.le_of_ble_eq_true rfl⟩ dX12_count_157 (fun r17 u17 hr17 h17 => ?_)
      rcases h17 with ⟨rfl, t17, t17b⟩ | ⟨rfl, t17⟩
      · refine x_if_eq_f C.1 (tgt := 187) dX12_count_160 (by decide) (by decide) (by decide) ?_
        refine x_aload_n C.1 dX12_count_163 0 rfl ?_
        refine x_iload_n C.1 dX12_count_164 1 rfl ?_
        refine x_bipush C.1 (n := 30) dX12_count_165 ?_
        refine x_isub C.1 (v := x1 - 30) rfl dX12_count_167 ?_
        refine x_callVi C (As := [vI (x1 - 30)]) (rest := []) 0 (xw_at (N := 33) (i := 0) (by decide) rfl) vc_X12 (g_isPerson l D cy ad V J Rr hV hJ (x1 - 30) (by omega) h76 h78 htp) (l1 := []) (l2 := []) (List.append_nil _).symm (w2 := fun _ => MW cy ad V J Rr) (fun _ => List.append_nil _) rfl wm_yX12_isPerson wn_X12 wl_X12_259 wi_yX12_isPerson we_yX12_isPerson hd_yX12_isPerson rfl ⟨Nat.le_of_ble_eq_true rfl, Nat.le_of_ble_eq_true rfl⟩ (Nat.le_of_ble_eq_true rfl) ⟨Nat.le_of_ble_eq_true rfl, Nat.le_of_ble_eq_true rfl⟩ dX12_count_168 (fun r18 u18 hr18 h18 => ?_)
        obtain rfl := h18
        refine x_if_eq_t C.1 (tgt := 187) dX12_count_171 (by decide) (by decide) (by decide) ?_
        refine x_iload_n C.1 dX12_count_187 1 rfl ?_
        refine x_bipush C.1 (n := 40) dX12_count_188 ?_
        refine x_bipush C.1 (n := 47) dX12_count_190 ?_
        refine x_callSi C (As := [vI x1, vI 40, vI 47]) (rest := []) (c_in l D cy x1 40 47 hx1 (by decide) (by decide)) (l1 := []) (l2 := _) rfl (w2 := fun _ => _) (fun _ => rfl) rfl wm_yX12_in wn_X12 wl_X12_126 wi_yX12_in hd_yX12_in rfl ⟨Nat.le_of_ble_eq_true rfl, Nat.le_of_ble_eq_true rfl⟩ (Nat.le_of_ble_eq_true rfl) ⟨Nat.le_of_ble_eq_true rfl, Nat.le_of_ble_eq_true rfl⟩ dX12_count_192 (fun r19 u19 hr19 h19 => ?_)
        rcases h19 with ⟨rfl, t19, t19b⟩ | ⟨rfl, t19⟩
        · refine x_if_eq_f C.1 (tgt := 224) dX12_count_195 (by decide) (by decide) (by decide) ?_
          refine x_aload_n C.1 dX12_count_198 0 rfl ?_
          refine x_iload_n C.1 dX12_count_199 1 rfl ?_
          refine x_bipush C.1 (n := 40) dX12_count_200 ?_
          refine x_isub C.1 (v := x1 - 40) rfl dX12_count_202 ?_
          refine x_callVi C (As := [vI (x1 - 40)]) (rest := []) 0 (xw_at (N := 33) (i := 0) (by decide) rfl) vc_X12 (g_isPerson l D cy ad V J Rr hV hJ (x1 - 40) (by omega) h76 h78 htp) (l1 := []) (l2 := []) (List.append_nil _).symm (w2 := fun _ => MW cy ad V J Rr) (fun _ => List.append_nil _) rfl wm_yX12_isPerson wn_X12 wl_X12_259 wi_yX12_isPerson we_yX12_isPerson hd_yX12_isPerson rfl ⟨Nat.le_of_ble_eq_true rfl, Nat.le_of_ble_eq_true rfl⟩ (Nat.le_of_ble_eq_true rfl) ⟨Nat.le_of_ble_eq_true rfl, Nat.le_of_ble_eq_true rfl⟩ dX12_count_203 (fun r20 u20 hr20 h20 => ?_)
          obtain rfl := h20
          refine x_if_eq_t C.1 (tgt := 224) dX12_count_206 (by decide) (by decide) (by decide) ?_
          refine x_iconst C.1 (n := -1) dX12_count_224 ?_
          exact x_iret (S := Unit) (post := fun r _ => (x1 = 6 ∧ r = 1) ∨ ((0 ≤ x1 ∧ x1 ≤ 5 ∨ 10 ≤ x1 ∧ x1 ≤ 13) ∧ r = 0) ∨ (¬ (0 ≤ x1 ∧ x1 ≤ 6 ∨ 10 ≤ x1 ∧ x1 ≤ 13) ∧ r = -1)) (w1 := fun _ : Unit => MW cy ad V J Rr) (a := (-1)) C hr rfl dX12_count_225 (by decide) () rfl (by omega)
        · refine x_if_eq_t C.1 (tgt := 224) dX12_count_195 (by decide) (by decide) (by decide) ?_
          refine x_iconst C.1 (n := -1) dX12_count_224 ?_
          exact x_iret (S := Unit) (post := fun r _ => (x1 = 6 ∧ r = 1) ∨ ((0 ≤ x1 ∧ x1 ≤ 5 ∨ 10 ≤ x1 ∧ x1 ≤ 13) ∧ r = 0) ∨ (¬ (0 ≤ x1 ∧ x1 ≤ 6 ∨ 10 ≤ x1 ∧ x1 ≤ 13) ∧ r = -1)) (w1 := fun _ : Unit => MW cy ad V J Rr) (a := (-1)) C hr rfl dX12_count_225 (by decide) () rfl (by omega)
      · refine x_if_eq_t C.1 (tgt := 187) dX12_count_160 (by decide) (by decide) (by decide) ?_
        refine x_iload_n C.1 dX12_count_187 1 rfl ?_
        refine x_bipush C.1 (n := 40) dX12_count_188 ?_
        refine x_bipush C.1 (n := 47) dX12_count_190 ?_
        refine x_callSi C (As := [vI x1, vI 40, vI 47]) (rest := []) (c_in l D cy x1 40 47 hx1 (by decide) (by decide)) (l1 := []) (l2 := _) rfl (w2 := fun _ => _) (fun _ => rfl) rfl wm_yX12_in wn_X12 wl_X12_126 wi_yX12_in hd_yX12_in rfl ⟨Nat.le_of_ble_eq_true rfl, Nat.le_of_ble_eq_true rfl⟩ (Nat.le_of_ble_eq_true rfl) ⟨Nat.le_of_ble_eq_true rfl, Nat.le_of_ble_eq_true rfl⟩ dX12_count_192 (fun r21 u21 hr21 h21 => ?_)
        rcases h21 with ⟨rfl, t21, t21b⟩ | ⟨rfl, t21⟩
        · refine x_if_eq_f C.1 (tgt := 224) dX12_count_195 (by decide) (by decide) (by decide) ?_
          refine x_aload_n C.1 dX12_count_198 0 rfl ?_
          refine x_iload_n C.1 dX12_count_199 1 rfl ?_
          refine x_bipush C.1 (n := 40) dX12_count_200 ?_
          refine x_isub C.1 (v := x1 - 40) rfl dX12_count_202 ?_
          refine x_callVi C (As := [vI (x1 - 40)]) (rest := []) 0 (xw_at (N := 33) (i := 0) (by decide) rfl) vc_X12 (g_isPerson l D cy ad V J Rr hV hJ (x1 - 40) (by omega) h76 h78 htp) (l1 := []) (l2 := []) (List.append_nil _).symm (w2 := fun _ => MW cy ad V J Rr) (fun _ => List.append_nil _) rfl wm_yX12_isPerson wn_X12 wl_X12_259 wi_yX12_isPerson we_yX12_isPerson hd_yX12_isPerson rfl ⟨Nat.le_of_ble_eq_true rfl, Nat.le_of_ble_eq_true rfl⟩ (Nat.le_of_ble_eq_true rfl) ⟨Nat.le_of_ble_eq_true rfl, Nat.le_of_ble_eq_true rfl⟩ dX12_count_203 (fun r22 u22 hr22 h22 => ?_)
          obtain rfl := h22
          refine x_if_eq_t C.1 (tgt := 224) dX12_count_206 (by decide) (by decide) (by decide) ?_
          refine x_iconst C.1 (n := -1) dX12_count_224 ?_
          exact x_iret (S := Unit) (post := fun r _ => (x1 = 6 ∧ r = 1) ∨ ((0 ≤ x1 ∧ x1 ≤ 5 ∨ 10 ≤ x1 ∧ x1 ≤ 13) ∧ r = 0) ∨ (¬ (0 ≤ x1 ∧ x1 ≤ 6 ∨ 10 ≤ x1 ∧ x1 ≤ 13) ∧ r = -1)) (w1 := fun _ : Unit => MW cy ad V J Rr) (a := (-1)) C hr rfl dX12_count_225 (by decide) () rfl (by omega)
        · refine x_if_eq_t C.1 (tgt := 224) dX12_count_195 (by decide) (by decide) (by decide) ?_
          refine x_iconst C.1 (n := -1) dX12_count_224 ?_
          exact x_iret (S := Unit) (post := fun r _ => (x1 = 6 ∧ r = 1) ∨ ((0 ≤ x1 ∧ x1 ≤ 5 ∨ 10 ≤ x1 ∧ x1 ≤ 13) ∧ r = 0) ∨ (¬ (0 ≤ x1 ∧ x1 ≤ 6 ∨ 10 ≤ x1 ∧ x1 ≤ 13) ∧ r = -1)) (w1 := fun _ : Unit => MW cy ad V J Rr) (a := (-1)) C hr rfl dX12_count_225 (by decide) () rfl (by omega)
