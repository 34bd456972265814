theorem dJ6_bitCount_0f7a4_0 : decode cJ6_bitCount_0f7a4 0 = .ok (.iload_n 0, 1) := by decide +kernel
theorem dJ6_bitCount_0f7a4_1 : decode cJ6_bitCount_0f7a4 1 = .ok (.iload_n 0, 1) := by decide +kernel
theorem dJ6_bitCount_0f7a4_2 : decode cJ6_bitCount_0f7a4 2 = .ok (.iconst 1, 1) := by decide +kernel
theorem dJ6_bitCount_0f7a4_3 : decode cJ6_bitCount_0f7a4 3 = .ok (.iushr, 1) := by decide +kernel
theorem dJ6_bitCount_0f7a4_4 : decode cJ6_bitCount_0f7a4 4 = .ok (.ldc_w 265, 3) := by decide +kernel
theorem dJ6_bitCount_0f7a4_7 : decode cJ6_bitCount_0f7a4 7 = .ok (.iand, 1) := by decide +kernel
theorem dJ6_bitCount_0f7a4_8 : decode cJ6_bitCount_0f7a4 8 = .ok (.isub, 1) := by decide +kernel
theorem dJ6_bitCount_0f7a4_9 : decode cJ6_bitCount_0f7a4 9 = .ok (.istore_n 0, 1) := by decide +kernel
theorem dJ6_bitCount_0f7a4_10 : decode cJ6_bitCount_0f7a4 10 = .ok (.iload_n 0, 1) := by decide +kernel
theorem dJ6_bitCount_0f7a4_11 : decode cJ6_bitCount_0f7a4 11 = .ok (.ldc_w 266, 3) := by decide +kernel
theorem dJ6_bitCount_0f7a4_14 : decode cJ6_bitCount_0f7a4 14 = .ok (.iand, 1) := by decide +kernel
theorem dJ6_bitCount_0f7a4_15 : decode cJ6_bitCount_0f7a4 15 = .ok (.iload_n 0, 1) := by decide +kernel
theorem dJ6_bitCount_0f7a4_16 : decode cJ6_bitCount_0f7a4 16 = .ok (.iconst 2, 1) := by decide +kernel
theorem dJ6_bitCount_0f7a4_17 : decode cJ6_bitCount_0f7a4 17 = .ok (.iushr, 1) := by decide +kernel
theorem dJ6_bitCount_0f7a4_18 : decode cJ6_bitCount_0f7a4 18 = .ok (.ldc_w 266, 3) := by decide +kernel
theorem dJ6_bitCount_0f7a4_21 : decode cJ6_bitCount_0f7a4 21 = .ok (.iand, 1) := by decide +kernel
theorem dJ6_bitCount_0f7a4_22 : decode cJ6_bitCount_0f7a4 22 = .ok (.iadd, 1) := by decide +kernel
theorem dJ6_bitCount_0f7a4_23 : decode cJ6_bitCount_0f7a4 23 = .ok (.istore_n 0, 1) := by decide +kernel
theorem dJ6_bitCount_0f7a4_24 : decode cJ6_bitCount_0f7a4 24 = .ok (.iload_n 0, 1) := by decide +kernel
theorem dJ6_bitCount_0f7a4_25 : decode cJ6_bitCount_0f7a4 25 = .ok (.iload_n 0, 1) := by decide +kernel
theorem dJ6_bitCount_0f7a4_26 : decode cJ6_bitCount_0f7a4 26 = .ok (.iconst 4, 1) := by decide +kernel
theorem dJ6_bitCount_0f7a4_27 : decode cJ6_bitCount_0f7a4 27 = .ok (.iushr, 1) := by decide +kernel
theorem dJ6_bitCount_0f7a4_28 : decode cJ6_bitCount_0f7a4 28 = .ok (.iadd, 1) := by decide +kernel
theorem dJ6_bitCount_0f7a4_29 : decode cJ6_bitCount_0f7a4 29 = .ok (.ldc_w 267, 3) := by decide +kernel
theorem dJ6_bitCount_0f7a4_32 : decode cJ6_bitCount_0f7a4 32 = .ok (.iand, 1) := by decide +kernel
theorem dJ6_bitCount_0f7a4_33 : decode cJ6_bitCount_0f7a4 33 = .ok (.istore_n 0, 1) := by decide +kernel
theorem dJ6_bitCount_0f7a4_34 : decode cJ6_bitCount_0f7a4 34 = .ok (.iload_n 0, 1) := by decide +kernel
theorem dJ6_bitCount_0f7a4_35 : decode cJ6_bitCount_0f7a4 35 = .ok (.iload_n 0, 1) := by decide +kernel
theorem dJ6_bitCount_0f7a4_36 : decode cJ6_bitCount_0f7a4 36 = .ok (.bipush 8, 2) := by decide +kernel
theorem dJ6_bitCount_0f7a4_38 : decode cJ6_bitCount_0f7a4 38 = .ok (.iushr, 1) := by decide +kernel
theorem dJ6_bitCount_0f7a4_39 : decode cJ6_bitCount_0f7a4 39 = .ok (.iadd, 1) := by decide +kernel
theorem dJ6_bitCount_0f7a4_40 : decode cJ6_bitCount_0f7a4 40 = .ok (.istore_n 0, 1) := by decide +kernel
theorem dJ6_bitCount_0f7a4_41 : decode cJ6_bitCount_0f7a4 41 = .ok (.iload_n 0, 1) := by decide +kernel
theorem dJ6_bitCount_0f7a4_42 : decode cJ6_bitCount_0f7a4 42 = .ok (.iload_n 0, 1) := by decide +kernel
theorem dJ6_bitCount_0f7a4_43 : decode cJ6_bitCount_0f7a4 43 = .ok (.bipush 16, 2) := by decide +kernel
theorem dJ6_bitCount_0f7a4_45 : decode cJ6_bitCount_0f7a4 45 = .ok (.iushr, 1) := by decide +kernel
theorem dJ6_bitCount_0f7a4_46 : decode cJ6_bitCount_0f7a4 46 = .ok (.iadd, 1) := by decide +kernel
theorem dJ6_bitCount_0f7a4_47 : decode cJ6_bitCount_0f7a4 47 = .ok (.istore_n 0, 1) := by decide +kernel
theorem dJ6_bitCount_0f7a4_48 : decode cJ6_bitCount_0f7a4 48 = .ok (.iload_n 0, 1) := by decide +kernel
theorem dJ6_bitCount_0f7a4_49 : decode cJ6_bitCount_0f7a4 49 = .ok (.bipush 63, 2) := by decide +kernel
theorem dJ6_bitCount_0f7a4_51 : decode cJ6_bitCount_0f7a4 51 = .ok (.iand, 1) := by decide +kernel
theorem dJ6_bitCount_0f7a4_52 : decode cJ6_bitCount_0f7a4 52 = .ok (.ireturn, 1) := by decide +kernel
set_option maxHeartbeats 4000000 in
set_option maxRecDepth 100000 in
theorem c_bitCount (l : Launch) (D : va_G) (cy : Nat → ClassId) (x : Int) (hx : R32 x) : xMi l D (xTY cy) yJ6_bitCount_0f7a4 cJ6_bitCount_0f7a4 1 (some .int) 0 0 0 0 [vI x] [] (fun _ : Unit => []) (fun r _ => x = 0 → r = 0) := by
  refine xMi.mk (lv0 := [(0, vI x)]) (by decide) rfl (Nat.le_of_ble_eq_true rfl) (fun p e s m below meth c A C hr hnm hAe => ?_)
  have C : xC2 p s m _ meth c D A s.heap 1 cJ6_bitCount_0f7a4 RJ6 (xTY cy) := C
  refine x_iload_n C.1 dJ6_bitCount_0f7a4_0 0 rfl ?_
  refine x_iload_n C.1 dJ6_bitCount_0f7a4_1 0 rfl ?_
  refine x_iconst C.1 (n := 1) dJ6_bitCount_0f7a4_2 ?_
  refine x_iushr C.1 (v := iUshr x 1) rfl dJ6_bitCount_0f7a4_3 ?_
  refine x_ldcw C.1 (n := 1431655765) wq_J6_265 dJ6_bitCount_0f7a4_4 ?_
  refine x_iand C.1 (v := iAnd (iUshr x 1) 1431655765) rfl dJ6_bitCount_0f7a4_7 ?_
  refine x_isub C.1 (v := x - (iAnd (iUshr x 1) 1431655765)) rfl dJ6_bitCount_0f7a4_8 ?_
  refine x_istore_n C.1 (lv' := [(0, vI (x - (iAnd (iUshr x 1) 1431655765)))]) dJ6_bitCount_0f7a4_9 (by decide) rfl ?_
  refine x_iload_n C.1 dJ6_bitCount_0f7a4_10 0 rfl ?_
  refine x_ldcw C.1 (n := 858993459) wq_J6_266 dJ6_bitCount_0f7a4_11 ?_
  refine x_iand C.1 (v := iAnd (x - (iAnd (iUshr x 1) 1431655765)) 858993459) rfl dJ6_bitCount_0f7a4_14 ?_
  refine x_iload_n C.1 dJ6_bitCount_0f7a4_15 0 rfl ?_
  refine x_iconst C.1 (n := 2) dJ6_bitCount_0f7a4_16 ?_
  refine x_iushr C.1 (v := iUshr (x - (iAnd (iUshr x 1) 1431655765)) 2) rfl dJ6_bitCount_0f7a4_17 ?_
  refine x_ldcw C.1 (n := 858993459) wq_J6_266 dJ6_bitCount_0f7a4_18 ?_
  refine x_iand C.1 (v := iAnd (iUshr (x - (iAnd (iUshr x 1) 1431655765)) 2) 858993459) rfl dJ6_bitCount_0f7a4_21 ?_
  refine x_iadd C.1 (v := (iAnd (x - (iAnd (iUshr x 1) 1431655765)) 858993459) + (iAnd (iUshr (x - (iAnd (iUshr x 1) 1431655765)) 2) 858993459)) rfl dJ6_bitCount_0f7a4_22 ?_
  refine x_istore_n C.1 (lv' := [(0, vI ((iAnd (x - (iAnd (iUshr x 1) 1431655765)) 858993459) + (iAnd (iUshr (x - (iAnd (iUshr x 1) 1431655765)) 2) 858993459)))]) dJ6_bitCount_0f7a4_23 (by decide) rfl ?_
  refine x_iload_n C.1 dJ6_bitCount_0f7a4_24 0 rfl ?_
  refine x_iload_n C.1 dJ6_bitCount_0f7a4_25 0 rfl ?_
  refine x_iconst C.1 (n := 4) dJ6_bitCount_0f7a4_26 ?_
  refine x_iushr C.1 (v := iUshr ((iAnd (x - (iAnd (iUshr x 1) 1431655765)) 858993459) + (iAnd (iUshr (x - (iAnd (iUshr x 1) 1431655765)) 2) 858993459)) 4) rfl dJ6_bitCount_0f7a4_27 ?_
  refine x_iadd C.1 (v := ((iAnd (x - (iAnd (iUshr x 1) 1431655765)) 858993459) + (iAnd (iUshr (x - (iAnd (iUshr x 1) 1431655765)) 2) 858993459)) + (iUshr ((iAnd (x - (iAnd (iUshr x 1) 1431655765)) 858993459) + (iAnd (iUshr (x - (iAnd (iUshr x 1) 1431655765)) 2) 858993459)) 4)) rfl dJ6_bitCount_0f7a4_28 ?_
  refine x_ldcw C.1 (n := 252645135) wq_J6_267 dJ6_bitCount_0f7a4_29 ?_
  refine x_iand C.1 (v := iAnd (((iAnd (x - (iAnd (iUshr x 1) 1431655765)) 858993459) + (iAnd (iUshr (x - (iAnd (iUshr x 1) 1431655765)) 2) 858993459)) + (iUshr ((iAnd (x - (iAnd (iUshr x 1) 1431655765)) 858993459) + (iAnd (iUshr (x - (iAnd (iUshr x 1) 1431655765)) 2) 858993459)) 4)) 252645135) rfl dJ6_bitCount_0f7a4_32 ?_
  refine x_istore_n C.1 (lv' := [(0, vI (iAnd (((iAnd (x - (iAnd (iUshr x 1) 1431655765)) 858993459) + (iAnd (iUshr (x - (iAnd (iUshr x 1) 1431655765)) 2) 858993459)) + (iUshr ((iAnd (x - (iAnd (iUshr x 1) 1431655765)) 858993459) + (iAnd (iUshr (x - (iAnd (iUshr x 1) 1431655765)) 2) 858993459)) 4)) 252645135))]) dJ6_bitCount_0f7a4_33 (by decide) rfl ?_
  refine x_iload_n C.1 dJ6_bitCount_0f7a4_34 0 rfl ?_
  refine x_iload_n C.1 dJ6_bitCount_0f7a4_35 0 rfl ?_
  refine x_bipush C.1 (n := 8) dJ6_bitCount_0f7a4_36 ?_
  refine x_iushr C.1 (v := iUshr (iAnd (((iAnd (x - (iAnd (iUshr x 1) 1431655765)) 858993459) + (iAnd (iUshr (x - (iAnd (iUshr x 1) 1431655765)) 2) 858993459)) + (iUshr ((iAnd (x - (iAnd (iUshr x 1) 1431655765)) 858993459) + (iAnd (iUshr (x - (iAnd (iUshr x 1) 1431655765)) 2) 858993459)) 4)) 252645135) 8) rfl dJ6_bitCount_0f7a4_38 ?_
  refine x_iadd C.1 (v := (iAnd (((iAnd (x - (iAnd (iUshr x 1) 1431655765)) 858993459) + (iAnd (iUshr (x - (iAnd (iUshr x 1) 1431655765)) 2) 858993459)) + (iUshr ((iAnd (x - (iAnd (iUshr x 1) 1431655765)) 858993459) + (iAnd (iUshr (x - (iAnd (iUshr x 1) 1431655765)) 2) 858993459)) 4)) 252645135) + (iUshr (iAnd (((iAnd (x - (iAnd (iUshr x 1) 1431655765)) 858993459) + (iAnd (iUshr (x - (iAnd (iUshr x 1) 1431655765)) 2) 858993459)) + (iUshr ((iAnd (x - (iAnd (iUshr x 1) 1431655765)) 858993459) + (iAnd (iUshr (x - (iAnd (iUshr x 1) 1431655765)) 2) 858993459)) 4)) 252645135) 8)) rfl dJ6_bitCount_0f7a4_39 ?_
  refine x_istore_n C.1 (lv' := [(0, vI ((iAnd (((iAnd (x - (iAnd (iUshr x 1) 1431655765)) 858993459) + (iAnd (iUshr (x - (iAnd (iUshr x 1) 1431655765)) 2) 858993459)) + (iUshr ((iAnd (x - (iAnd (iUshr x 1) 1431655765)) 858993459) + (iAnd (iUshr (x - (iAnd (iUshr x 1) 1431655765)) 2) 858993459)) 4)) 252645135) + (iUshr (iAnd (((iAnd (x - (iAnd (iUshr x 1) 1431655765)) 858993459) + (iAnd (iUshr (x - (iAnd (iUshr x 1) 1431655765)) 2) 858993459)) + (iUshr ((iAnd (x - (iAnd (iUshr x 1) 1431655765)) 858993459) + (iAnd (iUshr (x - (iAnd (iUshr x 1) 1431655765)) 2) 858993459)) 4)) 252645135) 8)))]) dJ6_bitCount_0f7a4_40 (by decide) rfl ?_
  refine x_iload_n C.1 dJ6_bitCount_0f7a4_41 0 rfl ?_
  refine x_iload_n C.1 dJ6_bitCount_0f7a4_42 0 rfl ?_
  refine x_bipush C.1 (n := 16) dJ6_bitCount_0f7a4_43 ?_
  refine x_iushr C.1 (v := iUshr ((iAnd (((iAnd (x - (iAnd (iUshr x 1) 1431655765)) 858993459) + (iAnd (iUshr (x - (iAnd (iUshr x 1) 1431655765)) 2) 858993459)) + (iUshr ((iAnd (x - (iAnd (iUshr x 1) 1431655765)) 858993459) + (iAnd (iUshr (x - (iAnd (iUshr x 1) 1431655765)) 2) 858993459)) 4)) 252645135) + (iUshr (iAnd (((iAnd (x - (iAnd (iUshr x 1) 1431655765)) 858993459) + (iAnd (iUshr (x - (iAnd (iUshr x 1) 1431655765)) 2) 858993459)) + (iUshr ((iAnd (x - (iAnd (iUshr x 1) 1431655765)) 858993459) + (iAnd (iUshr (x - (iAnd (iUshr x 1) 1431655765)) 2) 858993459)) 4)) 252645135) 8)) 16) rfl dJ6_bitCount_0f7a4_45 ?_
  refine x_iadd C.1 (v := ((iAnd (((iAnd (x - (iAnd (iUshr x 1) 1431655765)) 858993459) + (iAnd (iUshr (x - (iAnd (iUshr x 1) 1431655765)) 2) 858993459)) + (iUshr ((iAnd (x - (iAnd (iUshr x 1) 1431655765)) 858993459) + (iAnd (iUshr (x - (iAnd (iUshr x 1) 1431655765)) 2) 858993459)) 4)) 252645135) + (iUshr (iAnd (((iAnd (x - (iAnd (iUshr x 1) 1431655765)) 858993459) + (iAnd (iUshr (x - (iAnd (iUshr x 1) 1431655765)) 2) 858993459)) + (iUshr ((iAnd (x - (iAnd (iUshr x 1) 1431655765)) 858993459) + (iAnd (iUshr (x - (iAnd (iUshr x 1) 1431655765)) 2) 858993459)) 4)) 252645135) 8)) + (iUshr ((iAnd (((iAnd (x - (iAnd (iUshr x 1) 1431655765)) 858993459) + (iAnd (iUshr (x - (iAnd (iUshr x 1) 1431655765)) 2) 858993459)) + (iUshr ((iAnd (x - (iAnd (iUshr x 1) 1431655765)) 858993459) + (iAnd (iUshr (x - (iAnd (iUshr x 1) 1431655765)) 2) 858993459)) 4)) 252645135) + (iUshr (iAnd (((iAnd (x - (iAnd (iUshr x 1) 1431655765)) 858993459) + (iAnd (iUshr (x - (iAnd (iUshr x 1) 1431655765)) 2) 858993459)) + (iUshr ((iAnd (x - (iAnd (iUshr x 1) 1431655765)) 858993459) + (iAnd (iUshr (x - (iAnd (iUshr x 1) 1431655765)) 2) 858993459)) 4)) 252645135) 8)) 16)) rfl dJ6_bitCount_0f7a4_46 ?_
  refine x_istore_n C.1 (lv' := [(0, vI (((iAnd (((iAnd (x - (iAnd (iUshr x 1) 1431655765)) 858993459) + (iAnd (iUshr (x - (iAnd (iUshr x 1) 1431655765)) 2) 858993459)) + (iUshr ((iAnd (x - (iAnd (iUshr x 1) 1431655765)) 858993459) + (iAnd (iUshr (x - (iAnd (iUshr x 1) 1431655765)) 2) 858993459)) 4)) 252645135) + (iUshr (iAnd (((iAnd (x - (iAnd (iUshr x 1) 1431655765)) 858993459) + (iAnd (iUshr (x - (iAnd (iUshr x 1) 1431655765)) 2) 858993459)) + (iUshr ((iAnd (x - (iAnd (iUshr x 1) 1431655765)) 858993459) + (iAnd (iUshr (x - (iAnd (iUshr x 1) 1431655765)) 2) 858993459)) 4)) 252645135) 8)) + (iUshr ((iAnd (((iAnd (x - (iAnd (iUshr x 1) 1431655765)) 858993459) + (iAnd (iUshr (x - (iAnd (iUshr x 1) 1431655765)) 2) 858993459)) + (iUshr ((iAnd (x - (iAnd (iUshr x 1) 1431655765)) 858993459) + (iAnd (iUshr (x - (iAnd (iUshr x 1) 1431655765)) 2) 858993459)) 4)) 252645135) + (iUshr (iAnd (((iAnd (x - (iAnd (iUshr x 1) 1431655765)) 858993459) + (iAnd (iUshr (x - (iAnd (iUshr x 1) 1431655765)) 2) 858993459)) + (iUshr ((iAnd (x - (iAnd (iUshr x 1) 1431655765)) 858993459) + (iAnd (iUshr (x - (iAnd (iUshr x 1) 1431655765)) 2) 858993459)) 4)) 252645135) 8)) 16)))]) dJ6_bitCount_0f7a4_47 (by decide) rfl ?_
  refine x_iload_n C.1 dJ6_bitCount_0f7a4_48 0 rfl ?_
  refine x_bipush C.1 (n := 63) dJ6_bitCount_0f7a4_49 ?_
  refine x_iand C.1 (v := iAnd (((iAnd (((iAnd (x - (iAnd (iUshr x 1) 1431655765)) 858993459) + (iAnd (iUshr (x - (iAnd (iUshr x 1) 1431655765)) 2) 858993459)) + (iUshr ((iAnd (x - (iAnd (iUshr x 1) 1431655765)) 858993459) + (iAnd (iUshr (x - (iAnd (iUshr x 1) 1431655765)) 2) 858993459)) 4)) 252645135) + (iUshr (iAnd (((iAnd (x - (iAnd (iUshr x 1) 1431655765)) 858993459) + (iAnd (iUshr (x - (iAnd (iUshr x 1) 1431655765)) 2) 858993459)) + (iUshr ((iAnd (x - (iAnd (iUshr x 1) 1431655765)) 858993459) + (iAnd (iUshr (x - (iAnd (iUshr x 1) 1431655765)) 2) 858993459)) 4)) 252645135) 8)) + (iUshr ((iAnd (((iAnd (x - (iAnd (iUshr x 1) 1431655765)) 858993459) + (iAnd (iUshr (x - (iAnd (iUshr x 1) 1431655765)) 2) 858993459)) + (iUshr ((iAnd (x - (iAnd (iUshr x 1) 1431655765)) 858993459) + (iAnd (iUshr (x - (iAnd (iUshr x 1) 1431655765)) 2) 858993459)) 4)) 252645135) + (iUshr (iAnd (((iAnd (x - (iAnd (iUshr x 1) 1431655765)) 858993459) + (iAnd (iUshr (x - (iAnd (iUshr x 1) 1431655765)) 2) 858993459)) + (iUshr ((iAnd (x - (iAnd (iUshr x 1) 1431655765)) 858993459) + (iAnd (iUshr (x - (iAnd (iUshr x 1) 1431655765)) 2) 858993459)) 4)) 252645135) 8)) 16)) 63) rfl dJ6_bitCount_0f7a4_51 ?_
  exact x_iret (S := Unit) (post := fun r _ => x = 0 → r = 0) (w1 := fun _ : Unit => []) (a := iAnd (((iAnd (((iAnd (x - (iAnd (iUshr x 1) 1431655765)) 858993459) + (iAnd (iUshr (x - (iAnd (iUshr x 1) 1431655765)) 2) 858993459)) + (iUshr ((iAnd (x - (iAnd (iUshr x 1) 1431655765)) 858993459) + (iAnd (iUshr (x - (iAnd (iUshr x 1) 1431655765)) 2) 858993459)) 4)) 252645135) + (iUshr (iAnd (((iAnd (x - (iAnd (iUshr x 1) 1431655765)) 858993459) + (iAnd (iUshr (x - (iAnd (iUshr x 1) 1431655765)) 2) 858993459)) + (iUshr ((iAnd (x - (iAnd (iUshr x 1) 1431655765)) 858993459) + (iAnd (iUshr (x - (iAnd (iUshr x 1) 1431655765)) 2) 858993459)) 4)) 252645135) 8)) + (iUshr ((iAnd (((iAnd (x - (iAnd (iUshr x 1) 1431655765)) 858993459) + (iAnd (iUshr (x - (iAnd (iUshr x 1) 1431655765)) 2) 858993459)) + (iUshr ((iAnd (x - (iAnd (iUshr x 1) 1431655765)) 858993459) + (iAnd (iUshr (x - (iAnd (iUshr x 1) 1431655765)) 2) 858993459)) 4)) 252645135) + (iUshr (iAnd (((iAnd (x - (iAnd (iUshr x 1) 1431655765)) 858993459) + (iAnd (iUshr (x - (iAnd (iUshr x 1) 1431655765)) 2) 858993459)) + (iUshr ((iAnd (x - (iAnd (iUshr x 1) 1431655765)) 858993459) + (iAnd (iUshr (x - (iAnd (iUshr x 1) 1431655765)) 2) 858993459)) 4)) 252645135) 8)) 16)) 63) C hr rfl dJ6_bitCount_0f7a4_52 (xi_r _) () rfl (by intro h; subst h; decide +kernel)
theorem dX11_lasts_0 : decode cX11_lasts 0 = .ok (.aload_n 0, 1) := by decide +kernel
theorem dX11_lasts_1 : decode cX11_lasts 1 = .ok (.getfield 10, 3) := by decide +kernel
theorem dX11_lasts_4 : decode cX11_lasts 4 = .ok (.iload_n 1, 1) := by decide +kernel
theorem dX11_lasts_5 : decode cX11_lasts 5 = .ok (.invokevirtual 103, 3) := by decide +kernel
theorem dX11_lasts_8 : decode cX11_lasts 8 = .ok (.ifCond .eq 13, 3) := by decide +kernel
theorem dX11_lasts_21 : decode cX11_lasts 21 = .ok (.iconst (-1), 1) := by decide +kernel
theorem dX11_lasts_22 : decode cX11_lasts 22 = .ok (.ireturn, 1) := by decide +kernel
set_option maxHeartbeats 4000000 in
set_option maxRecDepth 100000 in
theorem f_lasts (l : Launch) (D : va_G) (cy : Nat → ClassId) (ad : Nat → Nat) (V J : Nat → Nat → Int) (Rr : Nat → Nat → Nat) (hV : VR V) (hJ : VJ J) (x1 x2 : Int) (hx1 : R32 x1) (hx2 : R32 x2) (hnp : NPl V 1) (hne : NPe V 1) (htl : V 58 1 = 0) : xMi l D (xTY cy) yX11_lasts cX11_lasts 3 (some .int) 3 63 0 0 [.ref (ad 0), vI x1, vI x2] (XW cy ad V J Rr) (fun _ : Unit => XW cy ad V J Rr) (fun r _ => r = -1) := by
  refine xMi.mk (lv0 := [(0, .ref (ad 0)), (1, vI x1), (2, vI x2)]) (by decide) rfl (Nat.le_of_ble_eq_true rfl) (fun p e s m below meth c A C hr hnm hAe => ?_)
  have C : xC2 p s m _ meth c D A s.heap 3 cX11_lasts RX11 (xTY cy) := C
  refine x_aload_n C.1 dX11_lasts_0 0 rfl ?_
  refine x_getA C (N := 129) (i := 0) (by decide) rfl vc_X11 wx_X11 0 (by decide) wf_X11_10 (a := 1) rfl dX11_lasts_1 ?_
  refine x_iload_n C.1 dX11_lasts_4 1 rfl ?_
  refine x_callVi C (As := [vI x1]) (rest := []) 1 (xw_at (N := 129) (i := 1) (by omega) (xd_L (Or.inl rfl))) vc_X3 (c_isAlive0 l D cy ad V J Rr hV hJ 1 (Or.inl rfl) x1 hx1 hnp) (l1 := []) (l2 := []) (List.append_nil _).symm (w2 := fun _ => XW cy ad V J Rr) (fun _ => List.append_nil _) rfl wm_yX3_isAlive wn_X3 wl_X11_103 wi_yX3_isAlive we_yX3_isAlive hd_yX3_isAlive rfl ⟨Nat.le_of_ble_eq_true rfl, Nat.le_of_ble_eq_true rfl⟩ (Nat.le_of_ble_eq_true rfl) ⟨Nat.le_of_ble_eq_true rfl, Nat.le_of_ble_eq_true rfl⟩ dX11_lasts_5 (fun r1 u1 hr1 h1 => ?_)
  obtain rfl := h1
  refine x_if_eq_t C.1 (tgt := 21) dX11_lasts_8 (by decide) (by decide) (by decide) ?_
  refine x_iconst C.1 (n := -1) dX11_lasts_21 ?_
  exact x_iret (S := Unit) (post := fun r _ => r = -1) (w1 := fun _ : Unit => XW cy ad V J Rr) (a := (-1)) C hr rfl dX11_lasts_22 (by decide) () rfl (by omega)
theorem dX11_needs_0 : decode cX11_needs 0 = .ok (.aload_n 0, 1) := by decide +kernel
theorem dX11_needs_1 : decode cX11_needs 1 = .ok (.getfield 10, 3) := by decide +kernel
theorem dX11_needs_4 : decode cX11_needs 4 = .ok (.iload_n 1, 1) := by decide +kernel
theorem dX11_needs_5 : decode cX11_needs 5 = .ok (.invokevirtual 103, 3) := by decide +kernel
theorem dX11_needs_8 : decode cX11_needs 8 = .ok (.ifCond .eq 13, 3) := by decide +kernel
theorem dX11_needs_21 : decode cX11_needs 21 = .ok (.iconst (-1), 1) := by decide +kernel
theorem dX11_needs_22 : decode cX11_needs 22 = .ok (.ireturn, 1) := by decide +kernel
set_option maxHeartbeats 4000000 in
set_option maxRecDepth 100000 in
theorem f_needs (l : Launch) (D : va_G) (cy : Nat → ClassId) (ad : Nat → Nat) (V J : Nat → Nat → Int) (Rr : Nat → Nat → Nat) (hV : VR V) (hJ : VJ J) (x1 x2 : Int) (hx1 : R32 x1) (hx2 : R32 x2) (hnp : NPl V 1) (hne : NPe V 1) (htl : V 58 1 = 0) : xMi l D (xTY cy) yX11_needs cX11_needs 4 (some .int) 3 63 0 0 [.ref (ad 0), vI x1, vI x2] (XW cy ad V J Rr) (fun _ : Unit => XW cy ad V J Rr) (fun r _ => r = -1) := by
  refine xMi.mk (lv0 := [(0, .ref (ad 0)), (1, vI x1), (2, vI x2)]) (by decide) rfl (Nat.le_of_ble_eq_true rfl) (fun p e s m below meth c A C hr hnm hAe => ?_)
  have C : xC2 p s m _ meth c D A s.heap 4 cX11_needs RX11 (xTY cy) := C
  refine x_aload_n C.1 dX11_needs_0 0 rfl ?_
  refine x_getA C (N := 129) (i := 0) (by decide) rfl vc_X11 wx_X11 0 (by decide) wf_X11_10 (a := 1) rfl dX11_needs_1 ?_
  refine x_iload_n C.1 dX11_needs_4 1 rfl ?_
  refine x_callVi C (As := [vI x1]) (rest := []) 1 (xw_at (N := 129) (i := 1) (by omega) (xd_L (Or.inl rfl))) vc_X3 (c_isAlive0 l D cy ad V J Rr hV hJ 1 (Or.inl rfl) x1 hx1 hnp) (l1 := []) (l2 := []) (List.append_nil _).symm (w2 := fun _ => XW cy ad V J Rr) (fun _ => List.append_nil _) rfl wm_yX3_isAlive wn_X3 wl_X11_103 wi_yX3_isAlive we_yX3_isAlive hd_yX3_isAlive rfl ⟨Nat.le_of_ble_eq_true rfl, Nat.le_of_ble_eq_true rfl⟩ (Nat.le_of_ble_eq_true rfl) ⟨Nat.le_of_ble_eq_true rfl, Nat.le_of_ble_eq_true rfl⟩ dX11_needs_5 (fun r1 u1 hr1 h1 => ?_)
  obtain rfl := h1
  refine x_if_eq_t C.1 (tgt := 21) dX11_needs_8 (by decide) (by decide) (by decide) ?_
  refine x_iconst C.1 (n := -1) dX11_needs_21 ?_
  exact x_iret (S := Unit) (post := fun r _ => r = -1) (w1 := fun _ : Unit => XW cy ad V J Rr) (a := (-1)) C hr rfl dX11_needs_22 (by decide) () rfl (by omega)
theorem dX11_week_0 : decode cX11_week 0 = .ok (.aload_n 0, 1) := by decide +kernel
theorem dX11_week_1 : decode cX11_week 1 = .ok (.getfield 10, 3) := by decide +kernel
theorem dX11_week_4 : decode cX11_week 4 = .ok (.iload_n 1, 1) := by decide +kernel
theorem dX11_week_5 : decode cX11_week 5 = .ok (.invokevirtual 103, 3) := by decide +kernel
theorem dX11_week_8 : decode cX11_week 8 = .ok (.ifCond .eq 11, 3) := by decide +kernel
theorem dX11_week_19 : decode cX11_week 19 = .ok (.iconst (-1), 1) := by decide +kernel
theorem dX11_week_20 : decode cX11_week 20 = .ok (.ireturn, 1) := by decide +kernel
set_option maxHeartbeats 4000000 in
set_option maxRecDepth 100000 in
theorem f_week (l : Launch) (D : va_G) (cy : Nat → ClassId) (ad : Nat → Nat) (V J : Nat → Nat → Int) (Rr : Nat → Nat → Nat) (hV : VR V) (hJ : VJ J) (x1 x2 x3 : Int) (hx1 : R32 x1) (hx2 : R32 x2) (hx3 : R32 x3) (hnp : NPl V 1) (hne : NPe V 1) (htl : V 58 1 = 0) : xMi l D (xTY cy) yX11_week cX11_week 4 (some .int) 3 63 0 0 [.ref (ad 0), vI x1, vI x2, vI x3] (XW cy ad V J Rr) (fun _ : Unit => XW cy ad V J Rr) (fun r _ => r = -1) := by
  refine xMi.mk (lv0 := [(0, .ref (ad 0)), (1, vI x1), (2, vI x2), (3, vI x3)]) (by decide) rfl (Nat.le_of_ble_eq_true rfl) (fun p e s m below meth c A C hr hnm hAe => ?_)
  have C : xC2 p s m _ meth c D A s.heap 4 cX11_week RX11 (xTY cy) := C
  refine x_aload_n C.1 dX11_week_0 0 rfl ?_
  refine x_getA C (N := 129) (i := 0) (by decide) rfl vc_X11 wx_X11 0 (by decide) wf_X11_10 (a := 1) rfl dX11_week_1 ?_
  refine x_iload_n C.1 dX11_week_4 1 rfl ?_
  refine x_callVi C (As := [vI x1]) (rest := []) 1 (xw_at (N := 129) (i := 1) (by omega) (xd_L (Or.inl rfl))) vc_X3 (c_isAlive0 l D cy ad V J Rr hV hJ 1 (Or.inl rfl) x1 hx1 hnp) (l1 := []) (l2 := []) (List.append_nil _).symm (w2 := fun _ => XW cy ad V J Rr) (fun _ => List.append_nil _) rfl wm_yX3_isAlive wn_X3 wl_X11_103 wi_yX3_isAlive we_yX3_isAlive hd_yX3_isAlive rfl ⟨Nat.le_of_ble_eq_true rfl, Nat.le_of_ble_eq_true rfl⟩ (Nat.le_of_ble_eq_true rfl) ⟨Nat.le_of_ble_eq_true rfl, Nat.le_of_ble_eq_true rfl⟩ dX11_week_5 (fun r1 u1 hr1 h1 => ?_)
  obtain rfl := h1
  refine x_if_eq_t C.1 (tgt := 19) dX11_week_8 (by decide) (by decide) (by decide) ?_
  refine x_iconst C.1 (n := -1) dX11_week_19 ?_
  exact x_iret (S := Unit) (post := fun r _ => r = -1) (w1 := fun _ : Unit => XW cy ad V J Rr) (a := (-1)) C hr rfl dX11_week_20 (by decide) () rfl (by omega)
theorem dX11_rota_0 : decode cX11_rota 0 = .ok (.aload_n 0, 1) := by decide +kernel
theorem dX11_rota_1 : decode cX11_rota 1 = .ok (.getfield 10, 3) := by decide +kernel
theorem dX11_rota_4 : decode cX11_rota 4 = .ok (.iload_n 1, 1) := by decide +kernel
theorem dX11_rota_5 : decode cX11_rota 5 = .ok (.invokevirtual 103, 3) := by decide +kernel
theorem dX11_rota_8 : decode cX11_rota 8 = .ok (.ifCond .eq 24, 3) := by decide +kernel
theorem dX11_rota_32 : decode cX11_rota 32 = .ok (.iconst (-1), 1) := by decide +kernel
theorem dX11_rota_33 : decode cX11_rota 33 = .ok (.ireturn, 1) := by decide +kernel
set_option maxHeartbeats 4000000 in
set_option maxRecDepth 100000 in
theorem f_rota (l : Launch) (D : va_G) (cy : Nat → ClassId) (ad : Nat → Nat) (V J : Nat → Nat → Int) (Rr : Nat → Nat → Nat) (hV : VR V) (hJ : VJ J) (x1 x2 x3 : Int) (hx1 : R32 x1) (hx2 : R32 x2) (hx3 : R32 x3) (hnp : NPl V 1) (hne : NPe V 1) (htl : V 58 1 = 0) : xMi l D (xTY cy) yX11_rota cX11_rota 5 (some .int) 3 63 0 0 [.ref (ad 0), vI x1, vI x2, vI x3] (XW cy ad V J Rr) (fun _ : Unit => XW cy ad V J Rr) (fun r _ => r = -1) := by
  refine xMi.mk (lv0 := [(0, .ref (ad 0)), (1, vI x1), (2, vI x2), (3, vI x3)]) (by decide) rfl (Nat.le_of_ble_eq_true rfl) (fun p e s m below meth c A C hr hnm hAe => ?_)
  have C : xC2 p s m _ meth c D A s.heap 5 cX11_rota RX11 (xTY cy) := C
  refine x_aload_n C.1 dX11_rota_0 0 rfl ?_
  refine x_getA C (N := 129) (i := 0) (by decide) rfl vc_X11 wx_X11 0 (by decide) wf_X11_10 (a := 1) rfl dX11_rota_1 ?_
  refine x_iload_n C.1 dX11_rota_4 1 rfl ?_
  refine x_callVi C (As := [vI x1]) (rest := []) 1 (xw_at (N := 129) (i := 1) (by omega) (xd_L (Or.inl rfl))) vc_X3 (c_isAlive0 l D cy ad V J Rr hV hJ 1 (Or.inl rfl) x1 hx1 hnp) (l1 := []) (l2 := []) (List.append_nil _).symm (w2 := fun _ => XW cy ad V J Rr) (fun _ => List.append_nil _) rfl wm_yX3_isAlive wn_X3 wl_X11_103 wi_yX3_isAlive we_yX3_isAlive hd_yX3_isAlive rfl ⟨Nat.le_of_ble_eq_true rfl, Nat.le_of_ble_eq_true rfl⟩ (Nat.le_of_ble_eq_true rfl) ⟨Nat.le_of_ble_eq_true rfl, Nat.le_of_ble_eq_true rfl⟩ dX11_rota_5 (fun r1 u1 hr1 h1 => ?_)
  obtain rfl := h1
  refine x_if_eq_t C.1 (tgt := 32) dX11_rota_8 (by decide) (by decide) (by decide) ?_
  refine x_iconst C.1 (n := -1) dX11_rota_32 ?_
  exact x_iret (S := Unit) (post := fun r _ => r = -1) (w1 := fun _ : Unit => XW cy ad V J Rr) (a := (-1)) C hr rfl dX11_rota_33 (by decide) () rfl (by omega)
theorem dX11_comes_0 : decode cX11_comes 0 = .ok (.iload_n 1, 1) := by decide +kernel
theorem dX11_comes_1 : decode cX11_comes 1 = .ok (.iconst 1, 1) := by decide +kernel
theorem dX11_comes_2 : decode cX11_comes 2 = .ok (.bipush 12, 2) := by decide +kernel
theorem dX11_comes_4 : decode cX11_comes 4 = .ok (.invokestatic 74, 3) := by decide +kernel
theorem dX11_comes_7 : decode cX11_comes 7 = .ok (.ifCond .eq 22, 3) := by decide +kernel
theorem dX11_comes_10 : decode cX11_comes 10 = .ok (.iload_n 2, 1) := by decide +kernel
theorem dX11_comes_11 : decode cX11_comes 11 = .ok (.iconst 0, 1) := by decide +kernel
theorem dX11_comes_12 : decode cX11_comes 12 = .ok (.bipush 12, 2) := by decide +kernel
theorem dX11_comes_14 : decode cX11_comes 14 = .ok (.invokestatic 74, 3) := by decide +kernel
theorem dX11_comes_17 : decode cX11_comes 17 = .ok (.ifCond .eq 12, 3) := by decide +kernel
theorem dX11_comes_20 : decode cX11_comes 20 = .ok (.iload_n 3, 1) := by decide +kernel
theorem dX11_comes_21 : decode cX11_comes 21 = .ok (.iconst 0, 1) := by decide +kernel
theorem dX11_comes_22 : decode cX11_comes 22 = .ok (.iconst 1, 1) := by decide +kernel
theorem dX11_comes_23 : decode cX11_comes 23 = .ok (.invokestatic 74, 3) := by decide +kernel
theorem dX11_comes_26 : decode cX11_comes 26 = .ok (.ifCond .ne 7, 3) := by decide +kernel
theorem dX11_comes_29 : decode cX11_comes 29 = .ok (.ldc2_w 201, 3) := by decide +kernel
theorem dX11_comes_32 : decode cX11_comes 32 = .ok (.lreturn, 1) := by decide +kernel
theorem dX11_comes_33 : decode cX11_comes 33 = .ok (.iload_n 1, 1) := by decide +kernel
theorem dX11_comes_34 : decode cX11_comes 34 = .ok (.aload_n 0, 1) := by decide +kernel
theorem dX11_comes_35 : decode cX11_comes 35 = .ok (.getfield 25, 3) := by decide +kernel
theorem dX11_comes_38 : decode cX11_comes 38 = .ok (.getfield 120, 3) := by decide +kernel
theorem dX11_comes_41 : decode cX11_comes 41 = .ok (.if_icmp .le 7, 3) := by decide +kernel
theorem dX11_comes_44 : decode cX11_comes 44 = .ok (.ldc2_w 201, 3) := by decide +kernel
theorem dX11_comes_47 : decode cX11_comes 47 = .ok (.lreturn, 1) := by decide +kernel
set_option maxHeartbeats 4000000 in
set_option maxRecDepth 100000 in
theorem f_comes (l : Launch) (D : va_G) (cy : Nat → ClassId) (ad : Nat → Nat) (V J : Nat → Nat → Int) (Rr : Nat → Nat → Nat) (hV : VR V) (hJ : VJ J) (x1 x2 x3 : Int) (hx1 : R32 x1) (hx2 : R32 x2) (hx3 : R32 x3) (hnp : NPl V 1) (hne : NPe V 1) (htl : V 58 1 = 0) : xMl l D (xTY cy) yX11_comes cX11_comes 5 (some .long) 1 22 0 0 [.ref (ad 0), vI x1, vI x2, vI x3] (XW cy ad V J Rr) (fun _ : Unit => XW cy ad V J Rr) (fun r _ => r = -1) := by
  refine xMl.mk (lv0 := [(0, .ref (ad 0)), (1, vI x1), (2, vI x2), (3, vI x3)]) (by decide) rfl (Nat.le_of_ble_eq_true rfl) (fun p e s m below meth c A C hr hnm hAe => ?_)
  have C : xC2 p s m _ meth c D A s.heap 5 cX11_comes RX11 (xTY cy) := C
  refine x_iload_n C.1 dX11_comes_0 1 rfl ?_
  refine x_iconst C.1 (n := 1) dX11_comes_1 ?_
  refine x_bipush C.1 (n := 12) dX11_comes_2 ?_
  refine x_callSi C (As := [vI x1, vI 1, vI 12]) (rest := []) (c_isWithin l D cy x1 1 12 hx1 (by decide) (by decide)) (l1 := []) (l2 := _) rfl (w2 := fun _ => _) (fun _ => rfl) rfl wm_yX11_isWithin wn_X11 wl_X11_74 wi_yX11_isWithin hd_yX11_isWithin rfl ⟨Nat.le_of_ble_eq_true rfl, Nat.le_of_ble_eq_true rfl⟩ (Nat.le_of_ble_eq_true rfl) ⟨Nat.le_of_ble_eq_true rfl, Nat.le_of_ble_eq_true rfl⟩ dX11_comes_4 (fun r1 u1 hr1 h1 => ?_)
  rcases h1 with ⟨rfl, t1, t1b⟩ | ⟨rfl, t1⟩
  · refine x_if_eq_f C.1 (tgt := 29) dX11_comes_7 (by decide) (by decide) (by decide) ?_
    refine x_iload_n C.1 dX11_comes_10 2 rfl ?_
    refine x_iconst C.1 (n := 0) dX11_comes_11 ?_
    refine x_bipush C.1 (n := 12) dX11_comes_12 ?_
    refine x_callSi C (As := [vI x2, vI 0, vI 12]) (rest := []) (c_isWithin l D cy x2 0 12 hx2 (by decide) (by decide)) (l1 := []) (l2 := _) rfl (w2 := fun _ => _) (fun _ => rfl) rfl wm_yX11_isWithin wn_X11 wl_X11_74 wi_yX11_isWithin hd_yX11_isWithin rfl ⟨Nat.le_of_ble_eq_true rfl, Nat.le_of_ble_eq_true rfl⟩ (Nat.le_of_ble_eq_true rfl) ⟨Nat.le_of_ble_eq_true rfl, Nat.le_of_ble_eq_true rfl⟩ dX11_comes_14 (fun r2 u2 hr2 h2 => ?_)
    rcases h2 with ⟨rfl, t2, t2b⟩ | ⟨rfl, t2⟩
    · refine x_if_eq_f C.1 (tgt := 29) dX11_comes_17 (by decide) (by decide) (by decide) ?_
      refine x_iload_n C.1 dX11_comes_20 3 rfl ?_
      refine x_iconst C.1 (n := 0) dX11_comes_21 ?_
      refine x_iconst C.1 (n := 1) dX11_comes_22 ?_
      refine x_callSi C (As := [vI x3, vI 0, vI 1]) (rest := []) (c_isWithin l D cy x3 0 1 hx3 (by decide) (by decide)) (l1 := []) (l2 := _) rfl (w2 := fun _ => _) (fun _ => rfl) rfl wm_yX11_isWithin wn_X11 wl_X11_74 wi_yX11_isWithin hd_yX11_isWithin rfl ⟨Nat.le_of_ble_eq_true rfl, Nat.le_of_ble_eq_true rfl⟩ (Nat.le_of_ble_eq_true rfl) ⟨Nat.le_of_ble_eq_true rfl, Nat.le_of_ble_eq_true rfl⟩ dX11_comes_23 (fun r3 u3 hr3 h3 => ?_)
      rcases h3 with ⟨rfl, t3, t3b⟩ | ⟨rfl, t3⟩
      · refine x_if_ne_t C.1 (tgt := 33) dX11_comes_26 (by decide) (by decide) (by decide) ?_
        refine x_iload_n C.1 dX11_comes_33 1 rfl ?_
        refine x_aload_n C.1 dX11_comes_34 0 rfl ?_
        refine x_getA C (N := 129) (i := 0) (by decide) rfl vc_X11 wx_X11 4 (by decide) wf_X11_25 (a := 58) rfl dX11_comes_35 ?_
        refine x_getI C (N := 129) (i := 58) (by decide) rfl vc_X8 wx_X8 1 (by decide) wf_X11_120 rfl dX11_comes_38 (a := 0) htl ?_
        refine x_icmp_le_f C.1 (tgt := 48) dX11_comes_41 (by decide) hx1 (by decide) (by omega) ?_
        refine x_ldc2 C.1 (n := -1) wq_X11_201 dX11_comes_44 ?_
        exact x_lret (S := Unit) (post := fun r _ => r = -1) (w1 := fun _ : Unit => XW cy ad V J Rr) (a := (-1)) C hr rfl dX11_comes_47 (by decide) () rfl (by omega)
      · refine x_if_ne_f C.1 (tgt := 33) dX11_comes_26 (by decide) (by decide) (by decide) ?_
        refine x_ldc2 C.1 (n := -1) wq_X11_201 dX11_comes_29 ?_
        exact x_lret (S := Unit) (post := fun r _ => r = -1) (w1 := fun _ : Unit => XW cy ad V J Rr) (a := (-1)) C hr rfl dX11_comes_32 (by decide) () rfl (by omega)
    · refine x_if_eq_t C.1 (tgt := 29) dX11_comes_17 (by decide) (by decide) (by decide) ?_
      refine x_ldc2 C.1 (n := -1) wq_X11_201 dX11_comes_29 ?_
      exact x_lret (S := Unit) (post := fun r _ => r = -1) (w1 := fun _ : Unit => XW cy ad V J Rr) (a := (-1)) C hr rfl dX11_comes_32 (by decide) () rfl (by omega)
  · refine x_if_eq_t C.1 (tgt := 29) dX11_comes_7 (by decide) (by decide) (by decide) ?_
    refine x_ldc2 C.1 (n := -1) wq_X11_201 dX11_comes_29 ?_
    exact x_lret (S := Unit) (post := fun r _ => r = -1) (w1 := fun _ : Unit => XW cy ad V J Rr) (a := (-1)) C hr rfl dX11_comes_32 (by decide) () rfl (by omega)
theorem dX11_can_0 : decode cX11_can 0 = .ok (.iload_n 1, 1) := by decide +kernel
theorem dX11_can_1 : decode cX11_can 1 = .ok (.iconst 1, 1) := by decide +kernel
theorem dX11_can_2 : decode cX11_can 2 = .ok (.bipush 6, 2) := by decide +kernel
theorem dX11_can_4 : decode cX11_can 4 = .ok (.invokestatic 74, 3) := by decide +kernel
theorem dX11_can_7 : decode cX11_can 7 = .ok (.ifCond .eq 13, 3) := by decide +kernel
theorem dX11_can_10 : decode cX11_can 10 = .ok (.iload_n 2, 1) := by decide +kernel
theorem dX11_can_11 : decode cX11_can 11 = .ok (.iconst 1, 1) := by decide +kernel
theorem dX11_can_12 : decode cX11_can 12 = .ok (.bipush 9, 2) := by decide +kernel
theorem dX11_can_14 : decode cX11_can 14 = .ok (.invokestatic 74, 3) := by decide +kernel
theorem dX11_can_17 : decode cX11_can 17 = .ok (.ifCond .ne 7, 3) := by decide +kernel
theorem dX11_can_20 : decode cX11_can 20 = .ok (.ldc2_w 201, 3) := by decide +kernel
theorem dX11_can_23 : decode cX11_can 23 = .ok (.lreturn, 1) := by decide +kernel
theorem dX11_can_24 : decode cX11_can 24 = .ok (.iload_n 3, 1) := by decide +kernel
theorem dX11_can_25 : decode cX11_can 25 = .ok (.iconst 0, 1) := by decide +kernel
theorem dX11_can_26 : decode cX11_can 26 = .ok (.bipush 60, 2) := by decide +kernel
theorem dX11_can_28 : decode cX11_can 28 = .ok (.invokestatic 74, 3) := by decide +kernel
theorem dX11_can_31 : decode cX11_can 31 = .ok (.ifCond .eq 24, 3) := by decide +kernel
theorem dX11_can_34 : decode cX11_can 34 = .ok (.iload 4, 2) := by decide +kernel
theorem dX11_can_36 : decode cX11_can 36 = .ok (.iconst 0, 1) := by decide +kernel
theorem dX11_can_37 : decode cX11_can 37 = .ok (.iconst 1, 1) := by decide +kernel
theorem dX11_can_38 : decode cX11_can 38 = .ok (.invokestatic 74, 3) := by decide +kernel
theorem dX11_can_41 : decode cX11_can 41 = .ok (.ifCond .eq 14, 3) := by decide +kernel
theorem dX11_can_44 : decode cX11_can 44 = .ok (.iload_n 1, 1) := by decide +kernel
theorem dX11_can_45 : decode cX11_can 45 = .ok (.aload_n 0, 1) := by decide +kernel
theorem dX11_can_46 : decode cX11_can 46 = .ok (.getfield 25, 3) := by decide +kernel
theorem dX11_can_49 : decode cX11_can 49 = .ok (.getfield 120, 3) := by decide +kernel
theorem dX11_can_52 : decode cX11_can 52 = .ok (.if_icmp .le 7, 3) := by decide +kernel
theorem dX11_can_55 : decode cX11_can 55 = .ok (.ldc2_w 201, 3) := by decide +kernel
theorem dX11_can_58 : decode cX11_can 58 = .ok (.lreturn, 1) := by decide +kernel
set_option maxHeartbeats 4000000 in
set_option maxRecDepth 100000 in
theorem f_can (l : Launch) (D : va_G) (cy : Nat → ClassId) (ad : Nat → Nat) (V J : Nat → Nat → Int) (Rr : Nat → Nat → Nat) (hV : VR V) (hJ : VJ J) (x1 x2 x3 x4 : Int) (hx1 : R32 x1) (hx2 : R32 x2) (hx3 : R32 x3) (hx4 : R32 x4) (hnp : NPl V 1) (hne : NPe V 1) (htl : V 58 1 = 0) : xMl l D (xTY cy) yX11_can cX11_can 11 (some .long) 1 22 0 0 [.ref (ad 0), vI x1, vI x2, vI x3, vI x4] (XW cy ad V J Rr) (fun _ : Unit => XW cy ad V J Rr) (fun r _ => r = -1) := by
  refine xMl.mk (lv0 := [(0, .ref (ad 0)), (1, vI x1), (2, vI x2), (3, vI x3), (4, vI x4)]) (by decide) rfl (Nat.le_of_ble_eq_true rfl) (fun p e s m below meth c A C hr hnm hAe => ?_)
  have C : xC2 p s m _ meth c D A s.heap 11 cX11_can RX11 (xTY cy) := C
  refine x_iload_n C.1 dX11_can_0 1 rfl ?_
  refine x_iconst C.1 (n := 1) dX11_can_1 ?_
  refine x_bipush C.1 (n := 6) dX11_can_2 ?_
  refine x_callSi C (As := [vI x1, vI 1, vI 6]) (rest := []) (c_isWithin l D cy x1 1 6 hx1 (by decide) (by decide)) (l1 := []) (l2 := _) rfl (w2 := fun _ => _) (fun _ => rfl) rfl wm_yX11_isWithin wn_X11 wl_X11_74 wi_yX11_isWithin hd_yX11_isWithin rfl ⟨Nat.le_of_ble_eq_true rfl, Nat.le_of_ble_eq_true rfl⟩ (Nat.le_of_ble_eq_true rfl) ⟨Nat.le_of_ble_eq_true rfl, Nat.le_of_ble_eq_true rfl⟩ dX11_can_4 (fun r1 u1 hr1 h1 => ?_)
  rcases h1 with ⟨rfl, t1, t1b⟩ | ⟨rfl, t1⟩
  · refine x_if_eq_f C.1 (tgt := 20) dX11_can_7 (by decide) (by decide) (by decide) ?_
    refine x_iload_n C.1 dX11_can_10 2 rfl ?_
    refine x_iconst C.1 (n := 1) dX11_can_11 ?_
    refine x_bipush C.1 (n := 9) dX11_can_12 ?_
    refine x_callSi C (As := [vI x2, vI 1, vI 9]) (rest := []) (c_isWithin l D cy x2 1 9 hx2 (by decide) (by decide)) (l1 := []) (l2 := _) rfl (w2 := fun _ => _) (fun _ => rfl) rfl wm_yX11_isWithin wn_X11 wl_X11_74 wi_yX11_isWithin hd_yX11_isWithin rfl ⟨Nat.le_of_ble_eq_true rfl, Nat.le_of_ble_eq_true rfl⟩ (Nat.le_of_ble_eq_true rfl) ⟨Nat.le_of_ble_eq_true rfl, Nat.le_of_ble_eq_true rfl⟩ dX11_can_14 (fun r2 u2 hr2 h2 => ?_)
    rcases h2 with ⟨rfl, t2, t2b⟩ | ⟨rfl, t2⟩
    · refine x_if_ne_t C.1 (tgt := 24) dX11_can_17 (by decide) (by decide) (by decide) ?_
      refine x_iload_n C.1 dX11_can_24 3 rfl ?_
      refine x_iconst C.1 (n := 0) dX11_can_25 ?_
      refine x_bipush C.1 (n := 60) dX11_can_26 ?_
      refine x_callSi C (As := [vI x3, vI 0, vI 60]) (rest := []) (c_isWithin l D cy x3 0 60 hx3 (by decide) (by decide)) (l1 := []) (l2 := _) rfl (w2 := fun _ => _) (fun _ => rfl) rfl wm_yX11_isWithin wn_X11 wl_X11_74 wi_yX11_isWithin hd_yX11_isWithin rfl ⟨Nat.le_of_ble_eq_true rfl, Nat.le_of_ble_eq_true rfl⟩ (Nat.le_of_ble_eq_true rfl) ⟨Nat.le_of_ble_eq_true rfl, Nat.le_of_ble_eq_true rfl⟩ dX11_can_28 (fun r3 u3 hr3 h3 => ?_)
      rcases h3 with ⟨rfl, t3, t3b⟩ | ⟨rfl, t3⟩
      · refine x_if_eq_f C.1 (tgt := 55) dX11_can_31 (by decide) (by decide) (by decide) ?_
        refine x_iload C.1 dX11_can_34 4 rfl ?_
        refine x_iconst C.1 (n := 0) dX11_can_36 ?_
        refine x_iconst C.1 (n := 1) dX11_can_37 ?_
        refine x_callSi C (As := [vI x4, vI 0, vI 1]) (rest := []) (c_isWithin l D cy x4 0 1 hx4 (by decide) (by decide)) (l1 := []) (l2 := _) rfl (w2 := fun _ => _) (fun _ => rfl) rfl wm_yX11_isWithin wn_X11 wl_X11_74 wi_yX11_isWithin hd_yX11_isWithin rfl ⟨Nat.le_of_ble_eq_true rfl, Nat.le_of_ble_eq_true rfl⟩ (Nat.le_of_ble_eq_true rfl) ⟨Nat.le_of_ble_eq_true rfl, Nat.le_of_ble_eq_true rfl⟩ dX11_can_38 (fun r4 u4 hr4 h4 => ?_)
        rcases h4 with ⟨rfl, t4, t4b⟩ | ⟨rfl, t4⟩
        · refine x_if_eq_f C.1 (tgt := 55) dX11_can_41 (by decide) (by decide) (by decide) ?_
          refine x_iload_n C.1 dX11_can_44 1 rfl ?_
          refine x_aload_n C.1 dX11_can_45 0 rfl ?_
          refine x_getA C (N := 129) (i := 0) (by decide) rfl vc_X11 wx_X11 4 (by decide) wf_X11_25 (a := 58) rfl dX11_can_46 ?_
          refine x_getI C (N := 129) (i := 58) (by decide) rfl vc_X8 wx_X8 1 (by decide) wf_X11_120 rfl dX11_can_49 (a := 0) htl ?_
          refine x_icmp_le_f C.1 (tgt := 59) dX11_can_52 (by decide) hx1 (by decide) (by omega) ?_
          refine x_ldc2 C.1 (n := -1) wq_X11_201 dX11_can_55 ?_
          exact x_lret (S := Unit) (post := fun r _ => r = -1) (w1 := fun _ : Unit => XW cy ad V J Rr) (a := (-1)) C hr rfl dX11_can_58 (by decide) () rfl (by omega)
        · refine x_if_eq_t C.1 (tgt := 55) dX11_can_41 (by decide) (by decide) (by decide) ?_
          refine x_ldc2 C.1 (n := -1) wq_X11_201 dX11_can_55 ?_
          exact x_lret (S := Unit) (post := fun r _ => r = -1) (w1 := fun _ : Unit => XW cy ad V J Rr) (a := (-1)) C hr rfl dX11_can_58 (by decide) () rfl (by omega)
      · refine x_if_eq_t C.1 (tgt := 55) dX11_can_31 (by decide) (by decide) (by decide) ?_
        refine x_ldc2 C.1 (n := -1) wq_X11_201 dX11_can_55 ?_
        exact x_lret (S := Unit) (post := fun r _ => r = -1) (w1 := fun _ : Unit => XW cy ad V J Rr) (a := (-1)) C hr rfl dX11_can_58 (by decide) () rfl (by omega)
    · refine x_if_ne_f C.1 (tgt := 24) dX11_can_17 (by decide) (by decide) (by decide) ?_
      refine x_ldc2 C.1 (n := -1) wq_X11_201 dX11_can_20 ?_
      exact x_lret (S := Unit) (post := fun r _ => r = -1) (w1 := fun _ : Unit => XW cy ad V J Rr) (a := (-1)) C hr rfl dX11_can_23 (by decide) () rfl (by omega)
  · refine x_if_eq_t C.1 (tgt := 20) dX11_can_7 (by decide) (by decide) (by decide) ?_
    refine x_ldc2 C.1 (n := -1) wq_X11_201 dX11_can_20 ?_
    exact x_lret (S := Unit) (post := fun r _ => r = -1) (w1 := fun _ : Unit => XW cy ad V J Rr) (a := (-1)) C hr rfl dX11_can_23 (by decide) () rfl (by omega)
theorem hd_yJ6_bitCount_0f7a4 : yJ6_bitCount_0f7a4.cls ≠ "java/lang/invoke/MethodHandle" ∧ yJ6_bitCount_0f7a4.cls ≠ "java/lang/invoke/VarHandle" ∧ (parseMethodDescriptor yJ6_bitCount_0f7a4.desc).map (fun d => d.parameters.length) = some 1 := by decide +kernel
theorem dX11_whoDid_0 : decode cX11_whoDid 0 = .ok (.iload_n 1, 1) := by decide +kernel
theorem dX11_whoDid_1 : decode cX11_whoDid 1 = .ok (.iconst 1, 1) := by decide +kernel
theorem dX11_whoDid_2 : decode cX11_whoDid 2 = .ok (.bipush 6, 2) := by decide +kernel
theorem dX11_whoDid_4 : decode cX11_whoDid 4 = .ok (.invokestatic 74, 3) := by decide +kernel
theorem dX11_whoDid_7 : decode cX11_whoDid 7 = .ok (.ifCond .eq 22, 3) := by decide +kernel
theorem dX11_whoDid_10 : decode cX11_whoDid 10 = .ok (.iload_n 2, 1) := by decide +kernel
theorem dX11_whoDid_11 : decode cX11_whoDid 11 = .ok (.iconst 1, 1) := by decide +kernel
theorem dX11_whoDid_12 : decode cX11_whoDid 12 = .ok (.sipush 255, 3) := by decide +kernel
theorem dX11_whoDid_15 : decode cX11_whoDid 15 = .ok (.invokestatic 74, 3) := by decide +kernel
theorem dX11_whoDid_18 : decode cX11_whoDid 18 = .ok (.ifCond .eq 11, 3) := by decide +kernel
theorem dX11_whoDid_21 : decode cX11_whoDid 21 = .ok (.iload_n 2, 1) := by decide +kernel
theorem dX11_whoDid_22 : decode cX11_whoDid 22 = .ok (.invokestatic 160, 3) := by decide +kernel
theorem dX11_whoDid_25 : decode cX11_whoDid 25 = .ok (.iconst 5, 1) := by decide +kernel
theorem dX11_whoDid_26 : decode cX11_whoDid 26 = .ok (.if_icmp .le 7, 3) := by decide +kernel
theorem dX11_whoDid_29 : decode cX11_whoDid 29 = .ok (.ldc2_w 201, 3) := by decide +kernel
theorem dX11_whoDid_32 : decode cX11_whoDid 32 = .ok (.lreturn, 1) := by decide +kernel
theorem dX11_whoDid_33 : decode cX11_whoDid 33 = .ok (.iload_n 3, 1) := by decide +kernel
theorem dX11_whoDid_34 : decode cX11_whoDid 34 = .ok (.iconst 1, 1) := by decide +kernel
theorem dX11_whoDid_35 : decode cX11_whoDid 35 = .ok (.bipush 9, 2) := by decide +kernel
theorem dX11_whoDid_37 : decode cX11_whoDid 37 = .ok (.invokestatic 74, 3) := by decide +kernel
theorem dX11_whoDid_40 : decode cX11_whoDid 40 = .ok (.ifCond .eq 24, 3) := by decide +kernel
theorem dX11_whoDid_43 : decode cX11_whoDid 43 = .ok (.iload 4, 2) := by decide +kernel
theorem dX11_whoDid_45 : decode cX11_whoDid 45 = .ok (.iconst 0, 1) := by decide +kernel
theorem dX11_whoDid_46 : decode cX11_whoDid 46 = .ok (.bipush 9, 2) := by decide +kernel
theorem dX11_whoDid_48 : decode cX11_whoDid 48 = .ok (.invokestatic 74, 3) := by decide +kernel
theorem dX11_whoDid_51 : decode cX11_whoDid 51 = .ok (.ifCond .eq 13, 3) := by decide +kernel
theorem dX11_whoDid_54 : decode cX11_whoDid 54 = .ok (.iload 5, 2) := by decide +kernel
theorem dX11_whoDid_56 : decode cX11_whoDid 56 = .ok (.iconst 0, 1) := by decide +kernel
theorem dX11_whoDid_57 : decode cX11_whoDid 57 = .ok (.iconst 2, 1) := by decide +kernel
theorem dX11_whoDid_58 : decode cX11_whoDid 58 = .ok (.invokestatic 74, 3) := by decide +kernel
theorem dX11_whoDid_61 : decode cX11_whoDid 61 = .ok (.ifCond .ne 7, 3) := by decide +kernel
theorem dX11_whoDid_64 : decode cX11_whoDid 64 = .ok (.ldc2_w 201, 3) := by decide +kernel
theorem dX11_whoDid_67 : decode cX11_whoDid 67 = .ok (.lreturn, 1) := by decide +kernel
theorem dX11_whoDid_68 : decode cX11_whoDid 68 = .ok (.iload_n 1, 1) := by decide +kernel
theorem dX11_whoDid_69 : decode cX11_whoDid 69 = .ok (.iconst 1, 1) := by decide +kernel
theorem dX11_whoDid_70 : decode cX11_whoDid 70 = .ok (.iadd, 1) := by decide +kernel
theorem dX11_whoDid_71 : decode cX11_whoDid 71 = .ok (.aload_n 0, 1) := by decide +kernel
theorem dX11_whoDid_72 : decode cX11_whoDid 72 = .ok (.getfield 25, 3) := by decide +kernel
theorem dX11_whoDid_75 : decode cX11_whoDid 75 = .ok (.getfield 120, 3) := by decide +kernel
theorem dX11_whoDid_78 : decode cX11_whoDid 78 = .ok (.if_icmp .le 7, 3) := by decide +kernel
theorem dX11_whoDid_81 : decode cX11_whoDid 81 = .ok (.ldc2_w 201, 3) := by decide +kernel
theorem dX11_whoDid_84 : decode cX11_whoDid 84 = .ok (.lreturn, 1) := by decide +kernel
set_option maxHeartbeats 4000000 in
set_option maxRecDepth 100000 in
theorem f_whoDid (l : Launch) (D : va_G) (cy : Nat → ClassId) (ad : Nat → Nat) (V J : Nat → Nat → Int) (Rr : Nat → Nat → Nat) (hV : VR V) (hJ : VJ J) (x1 x2 x3 x4 x5 : Int) (hx1 : R32 x1) (hx2 : R32 x2) (hx3 : R32 x3) (hx4 : R32 x4) (hx5 : R32 x5) (hnp : NPl V 1) (hne : NPe V 1) (htl : V 58 1 = 0) : xMl l D (xTY cy) yX11_whoDid cX11_whoDid 14 (some .long) 1 22 0 0 [.ref (ad 0), vI x1, vI x2, vI x3, vI x4, vI x5] (XW cy ad V J Rr) (fun _ : Unit => XW cy ad V J Rr) (fun r _ => r = -1) := by
  refine xMl.mk (lv0 := [(0, .ref (ad 0)), (1, vI x1), (2, vI x2), (3, vI x3), (4, vI x4), (5, vI x5)]) (by decide) rfl (Nat.le_of_ble_eq_true rfl) (fun p e s m below meth c A C hr hnm hAe => ?_)
  have C : xC2 p s m _ meth c D A s.heap 14 cX11_whoDid RX11 (xTY cy) := C
  refine x_iload_n C.1 dX11_whoDid_0 1 rfl ?_
  refine x_iconst C.1 (n := 1) dX11_whoDid_1 ?_
  refine x_bipush C.1 (n := 6) dX11_whoDid_2 ?_
  refine x_callSi C (As := [vI x1, vI 1, vI 6]) (rest := []) (c_isWithin l D cy x1 1 6 hx1 (by decide) (by decide)) (l1 := []) (l2 := _) rfl (w2 := fun _ => _) (fun _ => rfl) rfl wm_yX11_isWithin wn_X11 wl_X11_74 wi_yX11_isWithin hd_yX11_isWithin rfl ⟨Nat.le_of_ble_eq_true rfl, Nat.le_of_ble_eq_true rfl⟩ (Nat.le_of_ble_eq_true rfl) ⟨Nat.le_of_ble_eq_true rfl, Nat.le_of_ble_eq_true rfl⟩ dX11_whoDid_4 (fun r1 u1 hr1 h1 => ?_)
  rcases h1 with ⟨rfl, t1, t1b⟩ | ⟨rfl, t1⟩
  · refine x_if_eq_f C.1 (tgt := 29) dX11_whoDid_7 (by decide) (by decide) (by decide) ?_
    refine x_iload_n C.1 dX11_whoDid_10 2 rfl ?_
    refine x_iconst C.1 (n := 1) dX11_whoDid_11 ?_
    refine x_sipush C.1 (n := 255) dX11_whoDid_12 ?_
    refine x_callSi C (As := [vI x2, vI 1, vI 255]) (rest := []) (c_isWithin l D cy x2 1 255 hx2 (by decide) (by decide)) (l1 := []) (l2 := _) rfl (w2 := fun _ => _) (fun _ => rfl) rfl wm_yX11_isWithin wn_X11 wl_X11_74 wi_yX11_isWithin hd_yX11_isWithin rfl ⟨Nat.le_of_ble_eq_true rfl, Nat.le_of_ble_eq_true rfl⟩ (Nat.le_of_ble_eq_true rfl) ⟨Nat.le_of_ble_eq_true rfl, Nat.le_of_ble_eq_true rfl⟩ dX11_whoDid_15 (fun r2 u2 hr2 h2 => ?_)
    rcases h2 with ⟨rfl, t2, t2b⟩ | ⟨rfl, t2⟩
    · refine x_if_eq_f C.1 (tgt := 29) dX11_whoDid_18 (by decide) (by decide) (by decide) ?_
      refine x_iload_n C.1 dX11_whoDid_21 2 rfl ?_
      refine x_callSi C (As := [vI x2]) (rest := []) (c_bitCount l D cy x2 hx2) (l1 := []) (l2 := _) rfl (w2 := fun _ => _) (fun _ => rfl) rfl wm_yJ6_bitCount_0f7a4 wn_J6 wl_X11_160 wi_yJ6_bitCount_0f7a4 hd_yJ6_bitCount_0f7a4 rfl ⟨Nat.le_of_ble_eq_true rfl, Nat.le_of_ble_eq_true rfl⟩ (Nat.le_of_ble_eq_true rfl) ⟨Nat.le_of_ble_eq_true rfl, Nat.le_of_ble_eq_true rfl⟩ dX11_whoDid_22 (fun r3 u3 hr3 h3 => ?_)
      refine x_iconst C.1 (n := 5) dX11_whoDid_25 ?_
      refine x_icmp_le C.1 (tgt := 33) dX11_whoDid_26 (by decide) hr3 (by decide) (fun c26_4 => ?_) (fun c26_4 => ?_)
      · refine x_iload_n C.1 dX11_whoDid_33 3 rfl ?_
        refine x_iconst C.1 (n := 1) dX11_whoDid_34 ?_
        refine x_bipush C.1 (n := 9) dX11_whoDid_35 ?_
        refine x_callSi C (As := [vI x3, vI 1, vI 9]) (rest := []) (c_isWithin l D cy x3 1 9 hx3 (by decide) (by decide)) (l1 := []) (l2 := _) rfl (w2 := fun _ => _) (fun _ => rfl) rfl wm_yX11_isWithin wn_X11 wl_X11_74 wi_yX11_isWithin hd_yX11_isWithin rfl ⟨Nat.le_of_ble_eq_true rfl, Nat.le_of_ble_eq_true rfl⟩ (Nat.le_of_ble_eq_true rfl) ⟨Nat.le_of_ble_eq_true rfl, Nat.le_of_ble_eq_true rfl⟩ dX11_whoDid_37 (fun r5 u5 hr5 h5 => ?_)
        rcases h5 with ⟨rfl, t5, t5b⟩ | ⟨rfl, t5⟩
        · refine x_if_eq_f C.1 (tgt := 64) dX11_whoDid_40 (by decide) (by decide) (by decide) ?_
          refine x_iload C.1 dX11_whoDid_43 4 rfl ?_
          refine x_iconst C.1 (n := 0) dX11_whoDid_45 ?_
          refine x_bipush C.1 (n := 9) dX11_whoDid_46 ?_
          refine x_callSi C (As := [vI x4, vI 0, vI 9]) (rest := []) (c_isWithin l D cy x4 0 9 hx4 (by decide) (by decide)) (l1 := []) (l2 := _) rfl (w2 := fun _ => _) (fun _ => rfl) rfl wm_yX11_isWithin wn_X11 wl_X11_74 wi_yX11_isWithin hd_yX11_isWithin rfl ⟨Nat.le_of_ble_eq_true rfl, Nat.le_of_ble_eq_true rfl⟩ (Nat.le_of_ble_eq_true rfl) ⟨Nat.le_of_ble_eq_true rfl, Nat.le_of_ble_eq_true rfl⟩ dX11_whoDid_48 (fun r6 u6 hr6 h6 => ?_)
          rcases h6 with ⟨rfl, t6, t6b⟩ | ⟨rfl, t6⟩
          · refine x_if_eq_f C.1 (tgt := 64) dX11_whoDid_51 (by decide) (by decide) (by decide) ?_
            refine x_iload C.1 dX11_whoDid_54 5 rfl ?_
            refine x_iconst C.1 (n := 0) dX11_whoDid_56 ?_
            refine x_iconst C.1 (n := 2) dX11_whoDid_57 ?_
            refine x_callSi C (As := [vI x5, vI 0, vI 2]) (rest := []) (c_isWithin l D cy x5 0 2 hx5 (by decide) (by decide)) (l1 := []) (l2 := _) rfl (w2 := fun _ => _) (fun _ => rfl) rfl wm_yX11_isWithin wn_X11 wl_X11_74 wi_yX11_isWithin hd_yX11_isWithin rfl ⟨Nat.le_of_ble_eq_true rfl, Nat.le_of_ble_eq_true rfl⟩ (Nat.le_of_ble_eq_true rfl) ⟨Nat.le_of_ble_eq_true rfl, Nat.le_of_ble_eq_true rfl⟩ dX11_whoDid_58 (fun r7 u7 hr7 h7 => ?_)
            rcases h7 with ⟨rfl, t7, t7b⟩ | ⟨rfl, t7⟩
            · refine x_if_ne_t C.1 (tgt := 68) dX11_whoDid_61 (by decide) (by decide) (by decide) ?_
              refine x_iload_n C.1 dX11_whoDid_68 1 rfl ?_
              refine x_iconst C.1 (n := 1) dX11_whoDid_69 ?_
              refine x_iadd C.1 (v := x1 + 1) rfl dX11_whoDid_70 ?_
              refine x_aload_n C.1 dX11_whoDid_71 0 rfl ?_
              refine x_getA C (N := 129) (i := 0) (by decide) rfl vc_X11 wx_X11 4 (by decide) wf_X11_25 (a := 58) rfl dX11_whoDid_72 ?_
              refine x_getI C (N := 129) (i := 58) (by decide) rfl vc_X8 wx_X8 1 (by decide) wf_X11_120 rfl dX11_whoDid_75 (a := 0) htl ?_
              refine x_icmp_le_f C.1 (tgt := 85) dX11_whoDid_78 (by decide) (by omega) (by decide) (by omega) ?_
              refine x_ldc2 C.1 (n := -1) wq_X11_201 dX11_whoDid_81 ?_
              exact x_lret (S := Unit) (post := fun r _ => r = -1) (w1 := fun _ : Unit => XW cy ad V J Rr) (a := (-1)) C hr rfl dX11_whoDid_84 (by decide) () rfl (by omega)
            · refine x_if_ne_f C.1 (tgt := 68) dX11_whoDid_61 (by decide) (by decide) (by decide) ?_
              refine x_ldc2 C.1 (n := -1) wq_X11_201 dX11_whoDid_64 ?_
              exact x_lret (S := Unit) (post := fun r _ => r = -1) (w1 := fun _ : Unit => XW cy ad V J Rr) (a := (-1)) C hr rfl dX11_whoDid_67 (by decide) () rfl (by omega)
          · refine x_if_eq_t C.1 (tgt := 64) dX11_whoDid_51 (by decide) (by decide) (by decide) ?_
            refine x_ldc2 C.1 (n := -1) wq_X11_201 dX11_whoDid_64 ?_
            exact x_lret (S := Unit) (post := fun r _ => r = -1) (w1 := fun _ : Unit => XW cy ad V J Rr) (a := (-1)) C hr rfl dX11_whoDid_67 (by decide) () rfl (by omega)
        · refine x_if_eq_t C.1 (tgt := 64) dX11_whoDid_40 (by decide) (by decide) (by decide) ?_
          refine x_ldc2 C.1 (n := -1) wq_X11_201 dX11_whoDid_64 ?_
          exact x_lret (S := Unit) (post := fun r _ => r = -1) (w1 := fun _ : Unit => XW cy ad V J Rr) (a := (-1)) C hr rfl dX11_whoDid_67 (by decide) () rfl (by omega)
      · refine x_ldc2 C.1 (n := -1) wq_X11_201 dX11_whoDid_29 ?_
        exact x_lret (S := Unit) (post := fun r _ => r = -1) (w1 := fun _ : Unit => XW cy ad V J Rr) (a := (-1)) C hr rfl dX11_whoDid_32 (by decide) () rfl (by omega)
    · refine x_if_eq_t C.1 (tgt := 29) dX11_whoDid_18 (by decide) (by decide) (by decide) ?_
      refine x_ldc2 C.1 (n := -1) wq_X11_201 dX11_whoDid_29 ?_
      exact x_lret (S := Unit) (post := fun r _ => r = -1) (w1 := fun _ : Unit => XW cy ad V J Rr) (a := (-1)) C hr rfl dX11_whoDid_32 (by decide) () rfl (by omega)
  · refine x_if_eq_t C.1 (tgt := 29) dX11_whoDid_7 (by decide) (by decide) (by decide) ?_
    refine x_ldc2 C.1 (n := -1) wq_X11_201 dX11_whoDid_29 ?_
    exact x_lret (S := Unit) (post := fun r _ => r = -1) (w1 := fun _ : Unit => XW cy ad V J Rr) (a := (-1)) C hr rfl dX11_whoDid_32 (by decide) () rfl (by omega)
theorem dX11_check_0 : decode cX11_check 0 = .ok (.aload_n 0, 1) := by decide +kernel
theorem dX11_check_1 : decode cX11_check 1 = .ok (.getfield 10, 3) := by decide +kernel
theorem dX11_check_4 : decode cX11_check 4 = .ok (.iload_n 1, 1) := by decide +kernel
theorem dX11_check_5 : decode cX11_check 5 = .ok (.invokevirtual 91, 3) := by decide +kernel
theorem dX11_check_8 : decode cX11_check 8 = .ok (.ifCond .eq 26, 3) := by decide +kernel
theorem dX11_check_34 : decode cX11_check 34 = .ok (.bipush (-2), 2) := by decide +kernel
theorem dX11_check_36 : decode cX11_check 36 = .ok (.ireturn, 1) := by decide +kernel
set_option maxHeartbeats 4000000 in
set_option maxRecDepth 100000 in
theorem f_check (l : Launch) (D : va_G) (cy : Nat → ClassId) (ad : Nat → Nat) (V J : Nat → Nat → Int) (Rr : Nat → Nat → Nat) (hV : VR V) (hJ : VJ J) (x1 x2 : Int) (hx1 : R32 x1) (hx2 : R32 x2) (hnp : NPl V 1) (hne : NPe V 1) (htl : V 58 1 = 0) : xMi l D (xTY cy) yX11_check cX11_check 5 (some .int) 2 42 0 0 [.ref (ad 0), vI x1, vI x2] (XW cy ad V J Rr) (fun _ : Unit => XW cy ad V J Rr) (fun r _ => r = -2) := by
  refine xMi.mk (lv0 := [(0, .ref (ad 0)), (1, vI x1), (2, vI x2)]) (by decide) rfl (Nat.le_of_ble_eq_true rfl) (fun p e s m below meth c A C hr hnm hAe => ?_)
  have C : xC2 p s m _ meth c D A s.heap 5 cX11_check RX11 (xTY cy) := C
  refine x_aload_n C.1 dX11_check_0 0 rfl ?_
  refine x_getA C (N := 129) (i := 0) (by decide) rfl vc_X11 wx_X11 0 (by decide) wf_X11_10 (a := 1) rfl dX11_check_1 ?_
  refine x_iload_n C.1 dX11_check_4 1 rfl ?_
  refine x_callVi C (As := [vI x1]) (rest := []) 1 (xw_at (N := 129) (i := 1) (by omega) (xd_L (Or.inl rfl))) vc_X3 (c_isPlant l D cy ad V J Rr hV hJ 1 (Or.inl rfl) x1 hx1) (l1 := []) (l2 := []) (List.append_nil _).symm (w2 := fun _ => XW cy ad V J Rr) (fun _ => List.append_nil _) rfl wm_yX3_isPlant wn_X3 wl_X11_91 wi_yX3_isPlant we_yX3_isPlant hd_yX3_isPlant rfl ⟨Nat.le_of_ble_eq_true rfl, Nat.le_of_ble_eq_true rfl⟩ (Nat.le_of_ble_eq_true rfl) ⟨Nat.le_of_ble_eq_true rfl, Nat.le_of_ble_eq_true rfl⟩ dX11_check_5 (fun r1 u1 hr1 h1 => ?_)
  rcases h1 with ⟨rfl, t1, t1b, t1c⟩ | ⟨rfl, t1⟩
  · exact absurd (hnp _ (by omega)) t1c
  · refine x_if_eq_t C.1 (tgt := 34) dX11_check_8 (by decide) (by decide) (by decide) ?_
    refine x_bipush C.1 (n := -2) dX11_check_34 ?_
    exact x_iret (S := Unit) (post := fun r _ => r = -2) (w1 := fun _ : Unit => XW cy ad V J Rr) (a := (-2)) C hr rfl dX11_check_36 (by decide) () rfl (by omega)
theorem dX11_undo_0 : decode cX11_undo 0 = .ok (.aload_n 0, 1) := by decide +kernel
theorem dX11_undo_1 : decode cX11_undo 1 = .ok (.getfield 330, 3) := by decide +kernel
theorem dX11_undo_4 : decode cX11_undo 4 = .ok (.ifCond .ne 5, 3) := by decide +kernel
theorem dX11_undo_7 : decode cX11_undo 7 = .ok (.iconst 0, 1) := by decide +kernel
theorem dX11_undo_8 : decode cX11_undo 8 = .ok (.ireturn, 1) := by decide +kernel
set_option maxHeartbeats 4000000 in
set_option maxRecDepth 100000 in
theorem f_undo (l : Launch) (D : va_G) (cy : Nat → ClassId) (ad : Nat → Nat) (V J : Nat → Nat → Int) (Rr : Nat → Nat → Nat) (hV : VR V) (hJ : VJ J)  (hnp : NPl V 1) (hne : NPe V 1) (htl : V 58 1 = 0) (hkp : V 0 3 = 0) : xMi l D (xTY cy) yX11_undo cX11_undo 1 (some .boolean) 0 0 0 0 [.ref (ad 0)] (XW cy ad V J Rr) (fun _ : Unit => XW cy ad V J Rr) (fun r _ => r = 0) := by
  refine xMi.mk (lv0 := [(0, .ref (ad 0))]) (by decide) rfl (Nat.le_of_ble_eq_true rfl) (fun p e s m below meth c A C hr hnm hAe => ?_)
  have C : xC2 p s m _ meth c D A s.heap 1 cX11_undo RX11 (xTY cy) := C
  refine x_aload_n C.1 dX11_undo_0 0 rfl ?_
  refine x_getI C (N := 129) (i := 0) (by decide) rfl vc_X11 wx_X11 3 (by decide) wf_X11_330 rfl dX11_undo_1 (a := 0) hkp ?_
  refine x_if_ne_f C.1 (tgt := 9) dX11_undo_4 (by decide) (by decide) (by decide) ?_
  refine x_iconst C.1 (n := 0) dX11_undo_7 ?_
  exact x_zret (S := Unit) (post := fun r _ => r = 0) (w1 := fun _ : Unit => XW cy ad V J Rr) (a := 0) C hr rfl dX11_undo_8 (by decide) () rfl (by omega)
theorem dX11_seed_0 : decode cX11_seed 0 = .ok (.iload_n 1, 1) := by decide +kernel
theorem dX11_seed_1 : decode cX11_seed 1 = .ok (.iconst 0, 1) := by decide +kernel
theorem dX11_seed_2 : decode cX11_seed 2 = .ok (.ldc_w 326, 3) := by decide +kernel
theorem dX11_seed_5 : decode cX11_seed 5 = .ok (.invokestatic 74, 3) := by decide +kernel
theorem dX11_seed_8 : decode cX11_seed 8 = .ok (.ifCond .ne 5, 3) := by decide +kernel
theorem dX11_seed_11 : decode cX11_seed 11 = .ok (.iconst 0, 1) := by decide +kernel
theorem dX11_seed_12 : decode cX11_seed 12 = .ok (.ireturn, 1) := by decide +kernel
theorem dX11_seed_13 : decode cX11_seed 13 = .ok (.aload_n 0, 1) := by decide +kernel
theorem dX11_seed_14 : decode cX11_seed 14 = .ok (.getfield 10, 3) := by decide +kernel
theorem dX11_seed_17 : decode cX11_seed 17 = .ok (.iload_n 1, 1) := by decide +kernel
theorem dX11_seed_18 : decode cX11_seed 18 = .ok (.putfield 327, 3) := by decide +kernel
theorem dX11_seed_21 : decode cX11_seed 21 = .ok (.iconst 1, 1) := by decide +kernel
theorem dX11_seed_22 : decode cX11_seed 22 = .ok (.ireturn, 1) := by decide +kernel
set_option maxHeartbeats 4000000 in
set_option maxRecDepth 100000 in
theorem f_seed (l : Launch) (D : va_G) (cy : Nat → ClassId) (ad : Nat → Nat) (V J : Nat → Nat → Int) (Rr : Nat → Nat → Nat) (hV : VR V) (hJ : VJ J) (x1 : Int) (hx1 : R32 x1) (hnp : NPl V 1) (hne : NPe V 1) (htl : V 58 1 = 0) : xMi l D (xTY cy) yX11_seed cX11_seed 2 (some .boolean) 1 22 0 0 [.ref (ad 0), vI x1] (XW cy ad V J Rr) (fun u : xS => XW cy ad u.1 u.2.1 u.2.2) (fun r _ => (r = 1 ∧ 0 ≤ x1 ∧ x1 ≤ 65535) ∨ (r = 0 ∧ ¬ (0 ≤ x1 ∧ x1 ≤ 65535))) := by
  refine xMi.mk (lv0 := [(0, .ref (ad 0)), (1, vI x1)]) (by decide) rfl (Nat.le_of_ble_eq_true rfl) (fun p e s m below meth c A C hr hnm hAe => ?_)
  have C : xC2 p s m _ meth c D A s.heap 2 cX11_seed RX11 (xTY cy) := C
  refine x_iload_n C.1 dX11_seed_0 1 rfl ?_
  refine x_iconst C.1 (n := 0) dX11_seed_1 ?_
  refine x_ldcw C.1 (n := 65535) wq_X11_326 dX11_seed_2 ?_
  refine x_callSi C (As := [vI x1, vI 0, vI 65535]) (rest := []) (c_isWithin l D cy x1 0 65535 hx1 (by decide) (by decide)) (l1 := []) (l2 := _) rfl (w2 := fun _ => _) (fun _ => rfl) rfl wm_yX11_isWithin wn_X11 wl_X11_74 wi_yX11_isWithin hd_yX11_isWithin rfl ⟨Nat.le_of_ble_eq_true rfl, Nat.le_of_ble_eq_true rfl⟩ (Nat.le_of_ble_eq_true rfl) ⟨Nat.le_of_ble_eq_true rfl, Nat.le_of_ble_eq_true rfl⟩ dX11_seed_5 (fun r1 u1 hr1 h1 => ?_)
  rcases h1 with ⟨rfl, t1, t1b⟩ | ⟨rfl, t1⟩
  · refine x_if_ne_t C.1 (tgt := 13) dX11_seed_8 (by decide) (by decide) (by decide) ?_
    refine x_aload_n C.1 dX11_seed_13 0 rfl ?_
    refine x_getA C (N := 129) (i := 0) (by decide) rfl vc_X11 wx_X11 0 (by decide) wf_X11_10 (a := 1) rfl dX11_seed_14 ?_
    refine x_iload_n C.1 dX11_seed_17 1 rfl ?_
    refine x_putI C (N := 129) (i := 1) (by omega) (xd_L (Or.inl rfl)) vc_X3 wx_X3 4 (by decide) wf_X11_327 tyX3 tyX3_ok nmX3 rfl (tyX3_ok 4 (by decide)) rfl dX11_seed_18 rfl rfl ?_
    refine x_iconst C.1 (n := 1) dX11_seed_21 ?_
    exact x_zret (S := xS) (post := fun r _ => (r = 1 ∧ 0 ≤ x1 ∧ x1 ≤ 65535) ∨ (r = 0 ∧ ¬ (0 ≤ x1 ∧ x1 ≤ 65535))) (w1 := fun u : xS => XW cy ad u.1 u.2.1 u.2.2) (a := 1) C hr rfl dX11_seed_22 (by decide) ((up2 V 1 4 x1), J, Rr) rfl (by omega)
  · refine x_if_ne_f C.1 (tgt := 13) dX11_seed_8 (by decide) (by decide) (by decide) ?_
    refine x_iconst C.1 (n := 0) dX11_seed_11 ?_
    exact x_zret (S := xS) (post := fun r _ => (r = 1 ∧ 0 ≤ x1 ∧ x1 ≤ 65535) ∨ (r = 0 ∧ ¬ (0 ≤ x1 ∧ x1 ≤ 65535))) (w1 := fun u : xS => XW cy ad u.1 u.2.1 u.2.2) (a := 0) C hr rfl dX11_seed_12 (by decide) (V, J, Rr) rfl (by omega)
