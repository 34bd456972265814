theorem dX11_isWithin_0 : decode cX11_isWithin 0 = .ok (.iload_n 0, 1) := by decide +kernel
theorem dX11_isWithin_1 : decode cX11_isWithin 1 = .ok (.iload_n 1, 1) := by decide +kernel
theorem dX11_isWithin_2 : decode cX11_isWithin 2 = .ok (.if_icmp .lt 12, 3) := by decide +kernel
theorem dX11_isWithin_5 : decode cX11_isWithin 5 = .ok (.iload_n 0, 1) := by decide +kernel
theorem dX11_isWithin_6 : decode cX11_isWithin 6 = .ok (.iload_n 2, 1) := by decide +kernel
theorem dX11_isWithin_7 : decode cX11_isWithin 7 = .ok (.if_icmp .gt 7, 3) := by decide +kernel
theorem dX11_isWithin_10 : decode cX11_isWithin 10 = .ok (.iconst 1, 1) := by decide +kernel
theorem dX11_isWithin_11 : decode cX11_isWithin 11 = .ok (.goto 4, 3) := by decide +kernel
theorem dX11_isWithin_14 : decode cX11_isWithin 14 = .ok (.iconst 0, 1) := by decide +kernel
theorem dX11_isWithin_15 : decode cX11_isWithin 15 = .ok (.ireturn, 1) := by decide +kernel
set_option maxRecDepth 100000 in
def f_s_isWithin (x0 : Int) (x1 : Int) (x2 : Int) : (Int) → Prop :=
  (if x0 < x1 then rtn 0 else (if x2 < x0 then rtn 0 else rtn 1))
set_option maxHeartbeats 8000000 in
set_option maxRecDepth 100000 in
theorem s_isWithin (l : Launch) (D : va_G) (cy : Nat → ClassId) (x0 : Int) (bx0 : -2147483648 ≤ x0 ∧ x0 ≤ 2147483647) (x1 : Int) (bx1 : -2147483648 ≤ x1 ∧ x1 ≤ 2147483647) (x2 : Int) (bx2 : -2147483648 ≤ x2 ∧ x2 ≤ 2147483647) : xMi l D (xTY cy) yX11_isWithin cX11_isWithin 3 (some .boolean) 0 0 0 0 [vI x0, vI x1, vI x2] [] (fun _ : Unit => []) (fun a (u : Unit) => (0 ≤ a ∧ a ≤ 1) ∧ (Sq a (x1 ≤ x0 ∧ x0 ≤ x2)) ∧ (f_s_isWithin x0 x1 x2) a) := by
  refine xMi.mk (lv0 := [(0, vI x0), (1, vI x1), (2, vI x2)]) (by decide) rfl (Nat.le_of_ble_eq_true rfl) (fun p e s m below meth c A C hr hnm hAe => ?_)
  have C : xC2 p s m _ meth c D A s.heap 3 cX11_isWithin RX11 (xTY cy) := C
  have hF := Imp.of_eq (f_s_isWithin.eq_def x0 x1 x2)
  refine x_iload_n C.1 dX11_isWithin_0 0 rfl ?_
  refine x_iload_n C.1 dX11_isWithin_1 1 rfl ?_
  refine x_icmp_lt C.1 (tgt := 14) dX11_isWithin_2 (by decide) (by omega) (by omega) (fun hc1 => ?_) (fun hc1 => ?_)
  · replace hF := hF.to (if_pos hc1)
    refine x_iconst C.1 (n := 0) dX11_isWithin_14 ?_
    exact x_zret (S := Unit) (post := (fun a (u : Unit) => (0 ≤ a ∧ a ≤ 1) ∧ (Sq a (x1 ≤ x0 ∧ x0 ≤ x2)) ∧ (f_s_isWithin x0 x1 x2) a)) (w1 := (fun _ : Unit => [])) (a := 0) C hr rfl dX11_isWithin_15 (by decide) () rfl ⟨⟨by decide, by decide⟩, (Or.inr ⟨rfl, by omega⟩), hF _ rfl⟩
  · replace hF := hF.to (if_neg hc1)
    refine x_iload_n C.1 dX11_isWithin_5 0 rfl ?_
    refine x_iload_n C.1 dX11_isWithin_6 2 rfl ?_
    refine x_icmp_gt C.1 (tgt := 14) dX11_isWithin_7 (by decide) (by omega) (by omega) (fun hc2 => ?_) (fun hc2 => ?_)
    · replace hF := hF.to (if_pos hc2)
      refine x_iconst C.1 (n := 0) dX11_isWithin_14 ?_
      exact x_zret (S := Unit) (post := (fun a (u : Unit) => (0 ≤ a ∧ a ≤ 1) ∧ (Sq a (x1 ≤ x0 ∧ x0 ≤ x2)) ∧ (f_s_isWithin x0 x1 x2) a)) (w1 := (fun _ : Unit => [])) (a := 0) C hr rfl dX11_isWithin_15 (by decide) () rfl ⟨⟨by decide, by decide⟩, (Or.inr ⟨rfl, by omega⟩), hF _ rfl⟩
    · replace hF := hF.to (if_neg hc2)
      refine x_iconst C.1 (n := 1) dX11_isWithin_10 ?_
      refine x_goto C.1 (tgt := 15) dX11_isWithin_11 (by decide) ?_
      exact x_zret (S := Unit) (post := (fun a (u : Unit) => (0 ≤ a ∧ a ≤ 1) ∧ (Sq a (x1 ≤ x0 ∧ x0 ≤ x2)) ∧ (f_s_isWithin x0 x1 x2) a)) (w1 := (fun _ : Unit => [])) (a := 1) C hr rfl dX11_isWithin_15 (by decide) () rfl ⟨⟨by decide, by decide⟩, (Or.inl ⟨rfl, by omega⟩), hF _ rfl⟩
theorem dX11_isPlace_0 : decode cX11_isPlace 0 = .ok (.iload_n 0, 1) := by decide +kernel
theorem dX11_isPlace_1 : decode cX11_isPlace 1 = .ok (.ifCond .lt 12, 3) := by decide +kernel
theorem dX11_isPlace_4 : decode cX11_isPlace 4 = .ok (.iload_n 0, 1) := by decide +kernel
theorem dX11_isPlace_5 : decode cX11_isPlace 5 = .ok (.iload_n 1, 1) := by decide +kernel
theorem dX11_isPlace_6 : decode cX11_isPlace 6 = .ok (.if_icmp .ge 7, 3) := by decide +kernel
theorem dX11_isPlace_9 : decode cX11_isPlace 9 = .ok (.iconst 1, 1) := by decide +kernel
theorem dX11_isPlace_10 : decode cX11_isPlace 10 = .ok (.goto 4, 3) := by decide +kernel
theorem dX11_isPlace_13 : decode cX11_isPlace 13 = .ok (.iconst 0, 1) := by decide +kernel
theorem dX11_isPlace_14 : decode cX11_isPlace 14 = .ok (.ireturn, 1) := by decide +kernel
set_option maxRecDepth 100000 in
def f_s_isPlace (x0 : Int) (x1 : Int) : (Int) → Prop :=
  (if x0 < 0 then rtn 0 else (if x1 ≤ x0 then rtn 0 else rtn 1))
set_option maxHeartbeats 8000000 in
set_option maxRecDepth 100000 in
theorem s_isPlace (l : Launch) (D : va_G) (cy : Nat → ClassId) (x0 : Int) (bx0 : -2147483648 ≤ x0 ∧ x0 ≤ 2147483647) (x1 : Int) (bx1 : -2147483648 ≤ x1 ∧ x1 ≤ 2147483647) : xMi l D (xTY cy) yX11_isPlace cX11_isPlace 2 (some .boolean) 0 0 0 0 [vI x0, vI x1] [] (fun _ : Unit => []) (fun a (u : Unit) => (0 ≤ a ∧ a ≤ 1) ∧ (Sq a (0 ≤ x0 ∧ x0 < x1)) ∧ (f_s_isPlace x0 x1) a) := by
  refine xMi.mk (lv0 := [(0, vI x0), (1, vI x1)]) (by decide) rfl (Nat.le_of_ble_eq_true rfl) (fun p e s m below meth c A C hr hnm hAe => ?_)
  have C : xC2 p s m _ meth c D A s.heap 2 cX11_isPlace RX11 (xTY cy) := C
  have hF := Imp.of_eq (f_s_isPlace.eq_def x0 x1)
  refine x_iload_n C.1 dX11_isPlace_0 0 rfl ?_
  refine x_if_lt C.1 (tgt := 13) dX11_isPlace_1 (by decide) (by omega) (fun hc1 => ?_) (fun hc1 => ?_)
  · replace hF := hF.to (if_pos hc1)
    refine x_iconst C.1 (n := 0) dX11_isPlace_13 ?_
    exact x_zret (S := Unit) (post := (fun a (u : Unit) => (0 ≤ a ∧ a ≤ 1) ∧ (Sq a (0 ≤ x0 ∧ x0 < x1)) ∧ (f_s_isPlace x0 x1) a)) (w1 := (fun _ : Unit => [])) (a := 0) C hr rfl dX11_isPlace_14 (by decide) () rfl ⟨⟨by decide, by decide⟩, (Or.inr ⟨rfl, by omega⟩), hF _ rfl⟩
  · replace hF := hF.to (if_neg hc1)
    refine x_iload_n C.1 dX11_isPlace_4 0 rfl ?_
    refine x_iload_n C.1 dX11_isPlace_5 1 rfl ?_
    refine x_icmp_ge C.1 (tgt := 13) dX11_isPlace_6 (by decide) (by omega) (by omega) (fun hc2 => ?_) (fun hc2 => ?_)
    · replace hF := hF.to (if_pos hc2)
      refine x_iconst C.1 (n := 0) dX11_isPlace_13 ?_
      exact x_zret (S := Unit) (post := (fun a (u : Unit) => (0 ≤ a ∧ a ≤ 1) ∧ (Sq a (0 ≤ x0 ∧ x0 < x1)) ∧ (f_s_isPlace x0 x1) a)) (w1 := (fun _ : Unit => [])) (a := 0) C hr rfl dX11_isPlace_14 (by decide) () rfl ⟨⟨by decide, by decide⟩, (Or.inr ⟨rfl, by omega⟩), hF _ rfl⟩
    · replace hF := hF.to (if_neg hc2)
      refine x_iconst C.1 (n := 1) dX11_isPlace_9 ?_
      refine x_goto C.1 (tgt := 14) dX11_isPlace_10 (by decide) ?_
      exact x_zret (S := Unit) (post := (fun a (u : Unit) => (0 ≤ a ∧ a ≤ 1) ∧ (Sq a (0 ≤ x0 ∧ x0 < x1)) ∧ (f_s_isPlace x0 x1) a)) (w1 := (fun _ : Unit => [])) (a := 1) C hr rfl dX11_isPlace_14 (by decide) () rfl ⟨⟨by decide, by decide⟩, (Or.inl ⟨rfl, by omega⟩), hF _ rfl⟩
theorem dJ6_bitCount_0f7a4_0 : decode cJ6_bitCount_0f7a4 0 = .ok (.iload_n 0, 1) := by decide +kernel
theorem dJ6_bitCount_0f7a4_1 : decode cJ6_bitCount_0f7a4 1 = .ok (.iload_n 0, 1) := by decide +kernel
theorem dJ6_bitCount_0f7a4_2 : decode cJ6_bitCount_0f7a4 2 = .ok (.iconst 1, 1) := by decide +kernel
theorem dJ6_bitCount_0f7a4_3 : decode cJ6_bitCount_0f7a4 3 = .ok (.iushr, 1) := by decide +kernel
theorem dJ6_bitCount_0f7a4_4 : decode cJ6_bitCount_0f7a4 4 = .ok (.ldc_w 265, 3) := by decide +kernel
theorem dJ6_bitCount_0f7a4_7 : decode cJ6_bitCount_0f7a4 7 = .ok (.iand, 1) := by decide +kernel
theorem dJ6_bitCount_0f7a4_8 : decode cJ6_bitCount_0f7a4 8 = .ok (.isub, 1) := by decide +kernel
theorem dJ6_bitCount_0f7a4_9 : decode cJ6_bitCount_0f7a4 9 = .ok (.istore_n 0, 1) := by decide +kernel
theorem dJ6_bitCount_0f7a4_10 : decode cJ6_bitCount_0f7a4 10 = .ok (.iload_n 0, 1) := by decide +kernel
theorem dJ6_bitCount_0f7a4_11 : decode cJ6_bitCount_0f7a4 11 = .ok (.ldc_w 266, 3) := by decide +kernel
theorem dJ6_bitCount_0f7a4_14 : decode cJ6_bitCount_0f7a4 14 = .ok (.iand, 1) := by decide +kernel
theorem dJ6_bitCount_0f7a4_15 : decode cJ6_bitCount_0f7a4 15 = .ok (.iload_n 0, 1) := by decide +kernel
theorem dJ6_bitCount_0f7a4_16 : decode cJ6_bitCount_0f7a4 16 = .ok (.iconst 2, 1) := by decide +kernel
theorem dJ6_bitCount_0f7a4_17 : decode cJ6_bitCount_0f7a4 17 = .ok (.iushr, 1) := by decide +kernel
theorem dJ6_bitCount_0f7a4_18 : decode cJ6_bitCount_0f7a4 18 = .ok (.ldc_w 266, 3) := by decide +kernel
theorem dJ6_bitCount_0f7a4_21 : decode cJ6_bitCount_0f7a4 21 = .ok (.iand, 1) := by decide +kernel
theorem dJ6_bitCount_0f7a4_22 : decode cJ6_bitCount_0f7a4 22 = .ok (.iadd, 1) := by decide +kernel
theorem dJ6_bitCount_0f7a4_23 : decode cJ6_bitCount_0f7a4 23 = .ok (.istore_n 0, 1) := by decide +kernel
theorem dJ6_bitCount_0f7a4_24 : decode cJ6_bitCount_0f7a4 24 = .ok (.iload_n 0, 1) := by decide +kernel
theorem dJ6_bitCount_0f7a4_25 : decode cJ6_bitCount_0f7a4 25 = .ok (.iload_n 0, 1) := by decide +kernel
theorem dJ6_bitCount_0f7a4_26 : decode cJ6_bitCount_0f7a4 26 = .ok (.iconst 4, 1) := by decide +kernel
theorem dJ6_bitCount_0f7a4_27 : decode cJ6_bitCount_0f7a4 27 = .ok (.iushr, 1) := by decide +kernel
theorem dJ6_bitCount_0f7a4_28 : decode cJ6_bitCount_0f7a4 28 = .ok (.iadd, 1) := by decide +kernel
theorem dJ6_bitCount_0f7a4_29 : decode cJ6_bitCount_0f7a4 29 = .ok (.ldc_w 267, 3) := by decide +kernel
theorem dJ6_bitCount_0f7a4_32 : decode cJ6_bitCount_0f7a4 32 = .ok (.iand, 1) := by decide +kernel
theorem dJ6_bitCount_0f7a4_33 : decode cJ6_bitCount_0f7a4 33 = .ok (.istore_n 0, 1) := by decide +kernel
theorem dJ6_bitCount_0f7a4_34 : decode cJ6_bitCount_0f7a4 34 = .ok (.iload_n 0, 1) := by decide +kernel
theorem dJ6_bitCount_0f7a4_35 : decode cJ6_bitCount_0f7a4 35 = .ok (.iload_n 0, 1) := by decide +kernel
theorem dJ6_bitCount_0f7a4_36 : decode cJ6_bitCount_0f7a4 36 = .ok (.bipush 8, 2) := by decide +kernel
theorem dJ6_bitCount_0f7a4_38 : decode cJ6_bitCount_0f7a4 38 = .ok (.iushr, 1) := by decide +kernel
theorem dJ6_bitCount_0f7a4_39 : decode cJ6_bitCount_0f7a4 39 = .ok (.iadd, 1) := by decide +kernel
theorem dJ6_bitCount_0f7a4_40 : decode cJ6_bitCount_0f7a4 40 = .ok (.istore_n 0, 1) := by decide +kernel
theorem dJ6_bitCount_0f7a4_41 : decode cJ6_bitCount_0f7a4 41 = .ok (.iload_n 0, 1) := by decide +kernel
theorem dJ6_bitCount_0f7a4_42 : decode cJ6_bitCount_0f7a4 42 = .ok (.iload_n 0, 1) := by decide +kernel
theorem dJ6_bitCount_0f7a4_43 : decode cJ6_bitCount_0f7a4 43 = .ok (.bipush 16, 2) := by decide +kernel
theorem dJ6_bitCount_0f7a4_45 : decode cJ6_bitCount_0f7a4 45 = .ok (.iushr, 1) := by decide +kernel
theorem dJ6_bitCount_0f7a4_46 : decode cJ6_bitCount_0f7a4 46 = .ok (.iadd, 1) := by decide +kernel
theorem dJ6_bitCount_0f7a4_47 : decode cJ6_bitCount_0f7a4 47 = .ok (.istore_n 0, 1) := by decide +kernel
theorem dJ6_bitCount_0f7a4_48 : decode cJ6_bitCount_0f7a4 48 = .ok (.iload_n 0, 1) := by decide +kernel
theorem dJ6_bitCount_0f7a4_49 : decode cJ6_bitCount_0f7a4 49 = .ok (.bipush 63, 2) := by decide +kernel
theorem dJ6_bitCount_0f7a4_51 : decode cJ6_bitCount_0f7a4 51 = .ok (.iand, 1) := by decide +kernel
theorem dJ6_bitCount_0f7a4_52 : decode cJ6_bitCount_0f7a4 52 = .ok (.ireturn, 1) := by decide +kernel
set_option maxRecDepth 100000 in
def f_s_bitCount (x0 : Int) : (Int) → Prop :=
  rdb (iUshr x0 1) fun z1 => rdb (iAnd z1 1431655765) fun z2 => fct (0 ≤ z2 ∧ z2 ≤ 1431655765) <| rdb (wr (x0 - z2)) fun z3 => rdb (iAnd z3 858993459) fun z4 => fct (0 ≤ z4 ∧ z4 ≤ 858993459) <| rdb (iUshr z3 2) fun z5 => rdb (iAnd z5 858993459) fun z6 => fct (0 ≤ z6 ∧ z6 ≤ 858993459) <| rdb (iUshr (z4 + z6) 4) fun z7 => rdb (wr (z4 + z6 + z7)) fun z8 => rdb (iAnd z8 252645135) fun z9 => fct (0 ≤ z9 ∧ z9 ≤ 252645135) <| rdb (iUshr z9 8) fun z10 => rdb (wr (z9 + z10)) fun z11 => rdb (iUshr z11 16) fun z12 => rdb (wr (z11 + z12)) fun z13 => rdb (iAnd z13 63) fun z14 => fct (0 ≤ z14 ∧ z14 ≤ 63) <| rtn z14
set_option maxHeartbeats 8000000 in
set_option maxRecDepth 100000 in
theorem s_bitCount (l : Launch) (D : va_G) (cy : Nat → ClassId) (x0 : Int) (bx0 : -2147483648 ≤ x0 ∧ x0 ≤ 2147483647) : xMi l D (xTY cy) yJ6_bitCount_0f7a4 cJ6_bitCount_0f7a4 1 (some .int) 0 0 0 0 [vI x0] [] (fun _ : Unit => []) (fun a (u : Unit) => (0 ≤ a ∧ a ≤ 63) ∧ (f_s_bitCount x0) a) := by
  refine xMi.mk (lv0 := [(0, vI x0)]) (by decide) rfl (Nat.le_of_ble_eq_true rfl) (fun p e s m below meth c A C hr hnm hAe => ?_)
  have C : xC2 p s m _ meth c D A s.heap 1 cJ6_bitCount_0f7a4 RJ6 (xTY cy) := C
  have hF := Imp.of_eq (f_s_bitCount.eq_def x0)
  refine x_iload_n C.1 dJ6_bitCount_0f7a4_0 0 rfl ?_
  refine x_iload_n C.1 dJ6_bitCount_0f7a4_1 0 rfl ?_
  refine x_iconst C.1 (n := 1) dJ6_bitCount_0f7a4_2 ?_
  obtain ⟨z1, hz1, bz1⟩ : ∃ z : Int, iUshr x0 1 = z ∧ (-2147483648 ≤ z ∧ z ≤ 2147483647) := ⟨_, rfl, xi_r _⟩
  replace hF := hF.to (rdb_e (z := z1) hz1)
  refine x_iushr C.1 (v := z1) hz1 dJ6_bitCount_0f7a4_3 ?_
  refine x_ldcw C.1 (n := 1431655765) wq_J6_265 dJ6_bitCount_0f7a4_4 ?_
  obtain ⟨z2, hz2, bz2⟩ : ∃ z : Int, iAnd z1 1431655765 = z ∧ (0 ≤ z ∧ z ≤ 1431655765) := ⟨_, rfl, iAnd_leB _ (by decide)⟩
  replace hF := hF.to (rdb_e (z := z2) hz2)
  replace hF := hF.fc bz2
  refine x_iand C.1 (v := z2) hz2 dJ6_bitCount_0f7a4_7 ?_
  refine x_isub C.1 (v := x0 - z2) (by omega) dJ6_bitCount_0f7a4_8 ?_
  refine x_wrapg ?_
  intro z3 bz3 ew3
  replace hF := hF.to (rdb_e (z := z3) ew3.symm)
  refine x_istore_n C.1 (lv' := [(0, vI z3)]) dJ6_bitCount_0f7a4_9 (by decide) rfl ?_
  refine x_iload_n C.1 dJ6_bitCount_0f7a4_10 0 rfl ?_
  refine x_ldcw C.1 (n := 858993459) wq_J6_266 dJ6_bitCount_0f7a4_11 ?_
  obtain ⟨z4, hz4, bz4⟩ : ∃ z : Int, iAnd z3 858993459 = z ∧ (0 ≤ z ∧ z ≤ 858993459) := ⟨_, rfl, iAnd_leB _ (by decide)⟩
  replace hF := hF.to (rdb_e (z := z4) hz4)
  replace hF := hF.fc bz4
  refine x_iand C.1 (v := z4) hz4 dJ6_bitCount_0f7a4_14 ?_
  refine x_iload_n C.1 dJ6_bitCount_0f7a4_15 0 rfl ?_
  refine x_iconst C.1 (n := 2) dJ6_bitCount_0f7a4_16 ?_
  obtain ⟨z5, hz5, bz5⟩ : ∃ z : Int, iUshr z3 2 = z ∧ (-2147483648 ≤ z ∧ z ≤ 2147483647) := ⟨_, rfl, xi_r _⟩
  replace hF := hF.to (rdb_e (z := z5) hz5)
  refine x_iushr C.1 (v := z5) hz5 dJ6_bitCount_0f7a4_17 ?_
  refine x_ldcw C.1 (n := 858993459) wq_J6_266 dJ6_bitCount_0f7a4_18 ?_
  obtain ⟨z6, hz6, bz6⟩ : ∃ z : Int, iAnd z5 858993459 = z ∧ (0 ≤ z ∧ z ≤ 858993459) := ⟨_, rfl, iAnd_leB _ (by decide)⟩
  replace hF := hF.to (rdb_e (z := z6) hz6)
  replace hF := hF.fc bz6
  refine x_iand C.1 (v := z6) hz6 dJ6_bitCount_0f7a4_21 ?_
  refine x_iadd C.1 (v := z4 + z6) (by omega) dJ6_bitCount_0f7a4_22 ?_
  refine x_istore_n C.1 (lv' := [(0, vI (z4 + z6))]) dJ6_bitCount_0f7a4_23 (by decide) rfl ?_
  refine x_iload_n C.1 dJ6_bitCount_0f7a4_24 0 rfl ?_
  refine x_iload_n C.1 dJ6_bitCount_0f7a4_25 0 rfl ?_
  refine x_iconst C.1 (n := 4) dJ6_bitCount_0f7a4_26 ?_
  obtain ⟨z7, hz7, bz7⟩ : ∃ z : Int, iUshr (z4 + z6) 4 = z ∧ (-2147483648 ≤ z ∧ z ≤ 2147483647) := ⟨_, rfl, xi_r _⟩
  replace hF := hF.to (rdb_e (z := z7) hz7)
  refine x_iushr C.1 (v := z7) hz7 dJ6_bitCount_0f7a4_27 ?_
  refine x_iadd C.1 (v := z4 + z6 + z7) (by omega) dJ6_bitCount_0f7a4_28 ?_
  refine x_wrapg ?_
  intro z8 bz8 ew8
  replace hF := hF.to (rdb_e (z := z8) ew8.symm)
  refine x_ldcw C.1 (n := 252645135) wq_J6_267 dJ6_bitCount_0f7a4_29 ?_
  obtain ⟨z9, hz9, bz9⟩ : ∃ z : Int, iAnd z8 252645135 = z ∧ (0 ≤ z ∧ z ≤ 252645135) := ⟨_, rfl, iAnd_leB _ (by decide)⟩
  replace hF := hF.to (rdb_e (z := z9) hz9)
  replace hF := hF.fc bz9
  refine x_iand C.1 (v := z9) hz9 dJ6_bitCount_0f7a4_32 ?_
  refine x_istore_n C.1 (lv' := [(0, vI z9)]) dJ6_bitCount_0f7a4_33 (by decide) rfl ?_
  refine x_iload_n C.1 dJ6_bitCount_0f7a4_34 0 rfl ?_
  refine x_iload_n C.1 dJ6_bitCount_0f7a4_35 0 rfl ?_
  refine x_bipush C.1 (n := 8) dJ6_bitCount_0f7a4_36 ?_
  obtain ⟨z10, hz10, bz10⟩ : ∃ z : Int, iUshr z9 8 = z ∧ (-2147483648 ≤ z ∧ z ≤ 2147483647) := ⟨_, rfl, xi_r _⟩
  replace hF := hF.to (rdb_e (z := z10) hz10)
  refine x_iushr C.1 (v := z10) hz10 dJ6_bitCount_0f7a4_38 ?_
  refine x_iadd C.1 (v := z9 + z10) (by omega) dJ6_bitCount_0f7a4_39 ?_
  refine x_wrapg ?_
  intro z11 bz11 ew11
  replace hF := hF.to (rdb_e (z := z11) ew11.symm)
  refine x_istore_n C.1 (lv' := [(0, vI z11)]) dJ6_bitCount_0f7a4_40 (by decide) rfl ?_
  refine x_iload_n C.1 dJ6_bitCount_0f7a4_41 0 rfl ?_
  refine x_iload_n C.1 dJ6_bitCount_0f7a4_42 0 rfl ?_
  refine x_bipush C.1 (n := 16) dJ6_bitCount_0f7a4_43 ?_
  obtain ⟨z12, hz12, bz12⟩ : ∃ z : Int, iUshr z11 16 = z ∧ (-2147483648 ≤ z ∧ z ≤ 2147483647) := ⟨_, rfl, xi_r _⟩
  replace hF := hF.to (rdb_e (z := z12) hz12)
  refine x_iushr C.1 (v := z12) hz12 dJ6_bitCount_0f7a4_45 ?_
  refine x_iadd C.1 (v := z11 + z12) (by omega) dJ6_bitCount_0f7a4_46 ?_
  refine x_wrapg ?_
  intro z13 bz13 ew13
  replace hF := hF.to (rdb_e (z := z13) ew13.symm)
  refine x_istore_n C.1 (lv' := [(0, vI z13)]) dJ6_bitCount_0f7a4_47 (by decide) rfl ?_
  refine x_iload_n C.1 dJ6_bitCount_0f7a4_48 0 rfl ?_
  refine x_bipush C.1 (n := 63) dJ6_bitCount_0f7a4_49 ?_
  obtain ⟨z14, hz14, bz14⟩ : ∃ z : Int, iAnd z13 63 = z ∧ (0 ≤ z ∧ z ≤ 63) := ⟨_, rfl, iAnd_leB _ (by decide)⟩
  replace hF := hF.to (rdb_e (z := z14) hz14)
  replace hF := hF.fc bz14
  refine x_iand C.1 (v := z14) hz14 dJ6_bitCount_0f7a4_51 ?_
  exact x_iret (S := Unit) (post := (fun a (u : Unit) => (0 ≤ a ∧ a ≤ 63) ∧ (f_s_bitCount x0) a)) (w1 := (fun _ : Unit => [])) (a := z14) C hr rfl dJ6_bitCount_0f7a4_52 (by omega) () rfl ⟨⟨by omega, by omega⟩, hF _ rfl⟩
theorem dX11_power_0 : decode cX11_power 0 = .ok (.lconst 1, 1) := by decide +kernel
theorem dX11_power_1 : decode cX11_power 1 = .ok (.lstore_n 1, 1) := by decide +kernel
theorem dX11_power_2 : decode cX11_power 2 = .ok (.iconst 0, 1) := by decide +kernel
theorem dX11_power_3 : decode cX11_power 3 = .ok (.istore_n 3, 1) := by decide +kernel
theorem dX11_power_4 : decode cX11_power 4 = .ok (.iload_n 3, 1) := by decide +kernel
theorem dX11_power_5 : decode cX11_power 5 = .ok (.iload_n 0, 1) := by decide +kernel
theorem dX11_power_6 : decode cX11_power 6 = .ok (.if_icmp .ge 15, 3) := by decide +kernel
theorem dX11_power_9 : decode cX11_power 9 = .ok (.lload_n 1, 1) := by decide +kernel
theorem dX11_power_10 : decode cX11_power 10 = .ok (.ldc2_w 241, 3) := by decide +kernel
theorem dX11_power_13 : decode cX11_power 13 = .ok (.lmul, 1) := by decide +kernel
theorem dX11_power_14 : decode cX11_power 14 = .ok (.lstore_n 1, 1) := by decide +kernel
theorem dX11_power_15 : decode cX11_power 15 = .ok (.iinc 3 1, 3) := by decide +kernel
theorem dX11_power_18 : decode cX11_power 18 = .ok (.goto (-14), 3) := by decide +kernel
theorem dX11_power_21 : decode cX11_power 21 = .ok (.lload_n 1, 1) := by decide +kernel
theorem dX11_power_22 : decode cX11_power 22 = .ok (.lreturn, 1) := by decide +kernel
set_option maxRecDepth 100000 in
def f_s_power (x0 : Int) : (Int) → Prop :=
  lop2 (1002) (fun rc25 (z23 : Int) (z24 : Int) => (if x0 ≤ z23 then rtn z24 else rdb (wrJ (10 * z24)) fun z29 => rc25 (z23 + 1) z29)) 0 1
set_option maxHeartbeats 8000000 in
set_option maxRecDepth 100000 in
theorem s_power (l : Launch) (D : va_G) (cy : Nat → ClassId) (x0 : Int) (bx0 : 0 ≤ x0 ∧ x0 ≤ 1000) : xMl l D (xTY cy) yX11_power cX11_power 4 (some .long) 0 0 0 0 [vI x0] [] (fun _ : Unit => []) (fun a (u : Unit) => (f_s_power x0) a) := by
  refine xMl.mk (lv0 := [(0, vI x0)]) (by decide) rfl (Nat.le_of_ble_eq_true rfl) (fun p e s m below meth c A C hr hnm hAe => ?_)
  have C : xC2 p s m _ meth c D A s.heap 4 cX11_power RX11 (xTY cy) := C
  have hF := Imp.of_eq (f_s_power.eq_def x0)
  refine x_lconst1 C.1 dX11_power_0 ?_
  refine x_lstore_n C.1 (lv' := [(1, vJ 1), (0, vI x0)]) dX11_power_1 (by decide) rfl ?_
  refine x_iconst C.1 (n := 0) dX11_power_2 ?_
  refine x_istore_n C.1 (lv' := [(3, vI 0), (1, vJ 1), (0, vI x0)]) dX11_power_3 (by decide) rfl ?_
  obtain ⟨bd25, hbd25, hF⟩ := lop2_ex hF
  refine x_loop (I := fun x : Int × Int => match x with | (z23, z24) => (0 ≤ z23 ∧ z23 ≤ 1000) ∧ (-9223372036854775808 ≤ z24 ∧ z24 ≤ 9223372036854775807) ∧ (∃ nf : Nat, (1001 - z23).toNat < nf ∧ Imp (lop2 nf bd25 z23 z24) (f_s_power x0))) (μ := fun x : Int × Int => match x with | (z23, z24) => (1001 - z23).toNat) (wsf := fun x : Int × Int => match x with | (z23, z24) => []) (lvf := fun x : Int × Int => match x with | (z23, z24) => [(3, vI z23), (1, vJ z24), (0, vI x0)]) (fun x hI25x ih25 => ?_) (0, 1) ⟨⟨by decide, by decide⟩, ⟨by decide, by decide⟩, ⟨_, (by omega), hF⟩⟩ rfl rfl
  obtain ⟨z23, z24⟩ := x
  obtain ⟨bz23, bz24, nf25, hn25, hF⟩ := hI25x
  try dsimp only
  obtain ⟨nf25, rfl⟩ : ∃ mm, nf25 = mm + 1 := ⟨nf25 - 1, (Nat.succ_pred_eq_of_pos (Nat.lt_of_le_of_lt (Nat.zero_le _) hn25)).symm⟩
  replace hF := hF.to (lop2_s hbd25)
  refine x_iload_n C.1 dX11_power_4 0 rfl ?_
  refine x_iload_n C.1 dX11_power_5 2 rfl ?_
  refine x_icmp_ge C.1 (tgt := 21) dX11_power_6 (by decide) (by omega) (by omega) (fun hc28 => ?_) (fun hc28 => ?_)
  · replace hF := hF.to (if_pos hc28)
    refine x_lload_n C.1 dX11_power_21 1 rfl ?_
    exact x_lret (S := Unit) (post := (fun a (u : Unit) => (f_s_power x0) a)) (w1 := (fun _ : Unit => [])) (a := z24) C hr rfl dX11_power_22 (by omega) () rfl (hF _ rfl)
  · replace hF := hF.to (if_neg hc28)
    refine x_lload_n C.1 dX11_power_9 1 rfl ?_
    refine x_ldc2 C.1 (n := 10) wq_X11_241 dX11_power_10 ?_
    refine x_lmul C.1 (v := 10 * z24) (by omega) dX11_power_13 ?_
    refine x_wrapJg ?_
    intro z29 bz29 ew29
    replace hF := hF.to (rdb_e (z := z29) ew29.symm)
    refine x_lstore_n C.1 (lv' := [(1, vJ z29), (3, vI z23), (0, vI x0)]) dX11_power_14 (by decide) rfl ?_
    refine x_iinc C.1 (v := z23 + 1) (lv' := [(3, vI (z23 + 1)), (1, vJ z29), (0, vI x0)]) (by omega) dX11_power_15 1 rfl (by decide) rfl ?_
    refine x_goto C.1 (tgt := 4) dX11_power_18 (by decide) ?_
    have hmu25 : (1001 - (z23 + 1)).toNat < (1001 - z23).toNat := (by omega)
    exact ih25 (z23 + 1, z29) ⟨⟨by omega, by omega⟩, ⟨by omega, by omega⟩, ⟨nf25, Nat.lt_of_lt_of_le hmu25 (Nat.le_of_lt_succ hn25), hF⟩⟩ hmu25
theorem dX11_part_0 : decode cX11_part 0 = .ok (.lload_n 2, 1) := by decide +kernel
theorem dX11_part_1 : decode cX11_part 1 = .ok (.lstore 5, 2) := by decide +kernel
theorem dX11_part_3 : decode cX11_part 3 = .ok (.lload_n 0, 1) := by decide +kernel
theorem dX11_part_4 : decode cX11_part 4 = .ok (.lstore 7, 2) := by decide +kernel
theorem dX11_part_6 : decode cX11_part 6 = .ok (.iconst 0, 1) := by decide +kernel
theorem dX11_part_7 : decode cX11_part 7 = .ok (.istore 9, 2) := by decide +kernel
theorem dX11_part_9 : decode cX11_part 9 = .ok (.iload 9, 2) := by decide +kernel
theorem dX11_part_11 : decode cX11_part 11 = .ok (.sipush 200, 3) := by decide +kernel
theorem dX11_part_14 : decode cX11_part 14 = .ok (.if_icmp .ge 31, 3) := by decide +kernel
theorem dX11_part_17 : decode cX11_part 17 = .ok (.lload 7, 2) := by decide +kernel
theorem dX11_part_19 : decode cX11_part 19 = .ok (.lconst 0, 1) := by decide +kernel
theorem dX11_part_20 : decode cX11_part 20 = .ok (.lcmp, 1) := by decide +kernel
theorem dX11_part_21 : decode cX11_part 21 = .ok (.ifCond .eq 24, 3) := by decide +kernel
theorem dX11_part_24 : decode cX11_part 24 = .ok (.lload 5, 2) := by decide +kernel
theorem dX11_part_26 : decode cX11_part 26 = .ok (.lload 7, 2) := by decide +kernel
theorem dX11_part_28 : decode cX11_part 28 = .ok (.lrem, 1) := by decide +kernel
theorem dX11_part_29 : decode cX11_part 29 = .ok (.lstore 10, 2) := by decide +kernel
theorem dX11_part_31 : decode cX11_part 31 = .ok (.lload 7, 2) := by decide +kernel
theorem dX11_part_33 : decode cX11_part 33 = .ok (.lstore 5, 2) := by decide +kernel
theorem dX11_part_35 : decode cX11_part 35 = .ok (.lload 10, 2) := by decide +kernel
theorem dX11_part_37 : decode cX11_part 37 = .ok (.lstore 7, 2) := by decide +kernel
theorem dX11_part_39 : decode cX11_part 39 = .ok (.iinc 9 1, 3) := by decide +kernel
theorem dX11_part_42 : decode cX11_part 42 = .ok (.goto (-33), 3) := by decide +kernel
theorem dX11_part_45 : decode cX11_part 45 = .ok (.lload 5, 2) := by decide +kernel
theorem dX11_part_47 : decode cX11_part 47 = .ok (.lconst 0, 1) := by decide +kernel
theorem dX11_part_48 : decode cX11_part 48 = .ok (.lcmp, 1) := by decide +kernel
theorem dX11_part_49 : decode cX11_part 49 = .ok (.ifCond .ne 7, 3) := by decide +kernel
theorem dX11_part_52 : decode cX11_part 52 = .ok (.ldc2_w 201, 3) := by decide +kernel
theorem dX11_part_55 : decode cX11_part 55 = .ok (.lreturn, 1) := by decide +kernel
theorem dX11_part_56 : decode cX11_part 56 = .ok (.iload 4, 2) := by decide +kernel
theorem dX11_part_58 : decode cX11_part 58 = .ok (.ifCond .ne 7, 3) := by decide +kernel
theorem dX11_part_61 : decode cX11_part 61 = .ok (.lload_n 0, 1) := by decide +kernel
theorem dX11_part_62 : decode cX11_part 62 = .ok (.goto 4, 3) := by decide +kernel
theorem dX11_part_65 : decode cX11_part 65 = .ok (.lload_n 2, 1) := by decide +kernel
theorem dX11_part_66 : decode cX11_part 66 = .ok (.lload 5, 2) := by decide +kernel
theorem dX11_part_68 : decode cX11_part 68 = .ok (.ldiv, 1) := by decide +kernel
theorem dX11_part_69 : decode cX11_part 69 = .ok (.lreturn, 1) := by decide +kernel
set_option maxRecDepth 100000 in
def f_s_part (x0 : Int) (x1 : Int) (x2 : Int) : (Int) → Prop :=
  lop3 (202) (fun rc81 (z78 : Int) (z79 : Int) (z80 : Int) => jnk (fun (un98 : Unit) => (if ¬ (lcI z80 0) = 0 then (if ¬ x2 = 0 then rdb (jDiv x1 z80) fun z102 => rtn z102 else rdb (jDiv x0 z80) fun z103 => rtn z103) else rtn ((-1)))) fun jf98 => (if 200 ≤ z78 then jf98 (()) else (if (lcI z79 0) = 0 then jf98 (()) else rdb (jRem z80 z79) fun z107 => rc81 (z78 + 1) z107 z79))) 0 x0 x1
set_option maxHeartbeats 8000000 in
set_option maxRecDepth 100000 in
theorem s_part (l : Launch) (D : va_G) (cy : Nat → ClassId) (x0 : Int) (bx0 : -9223372036854775808 ≤ x0 ∧ x0 ≤ 9223372036854775807) (x1 : Int) (bx1 : -9223372036854775808 ≤ x1 ∧ x1 ≤ 9223372036854775807) (x2 : Int) (bx2 : -2147483648 ≤ x2 ∧ x2 ≤ 2147483647) : xMl l D (xTY cy) yX11_part cX11_part 12 (some .long) 0 0 0 0 [vJ x0, vJ x1, vI x2] [] (fun _ : Unit => []) (fun a (u : Unit) => (f_s_part x0 x1 x2) a) := by
  refine xMl.mk (lv0 := [(0, vJ x0), (2, vJ x1), (4, vI x2)]) (by decide) rfl (Nat.le_of_ble_eq_true rfl) (fun p e s m below meth c A C hr hnm hAe => ?_)
  have C : xC2 p s m _ meth c D A s.heap 12 cX11_part RX11 (xTY cy) := C
  have hF := Imp.of_eq (f_s_part.eq_def x0 x1 x2)
  refine x_lload_n C.1 dX11_part_0 1 rfl ?_
  refine x_lstore C.1 (lv' := [(5, vJ x1), (0, vJ x0), (2, vJ x1), (4, vI x2)]) dX11_part_1 (by decide) rfl ?_
  refine x_lload_n C.1 dX11_part_3 1 rfl ?_
  refine x_lstore C.1 (lv' := [(7, vJ x0), (5, vJ x1), (0, vJ x0), (2, vJ x1), (4, vI x2)]) dX11_part_4 (by decide) rfl ?_
  refine x_iconst C.1 (n := 0) dX11_part_6 ?_
  refine x_istore C.1 (lv' := [(9, vI 0), (7, vJ x0), (5, vJ x1), (0, vJ x0), (2, vJ x1), (4, vI x2)]) dX11_part_7 (by decide) rfl ?_
  obtain ⟨bd81, hbd81, hF⟩ := lop3_ex hF
  refine x_loop (I := fun x : Int × Int × Int => match x with | (z78, z79, z80) => (0 ≤ z78 ∧ z78 ≤ 200) ∧ (-9223372036854775808 ≤ z79 ∧ z79 ≤ 9223372036854775807) ∧ (-9223372036854775808 ≤ z80 ∧ z80 ≤ 9223372036854775807) ∧ (∃ nf : Nat, (201 - z78).toNat < nf ∧ Imp (lop3 nf bd81 z78 z79 z80) (f_s_part x0 x1 x2))) (μ := fun x : Int × Int × Int => match x with | (z78, z79, z80) => (201 - z78).toNat) (wsf := fun x : Int × Int × Int => match x with | (z78, z79, z80) => []) (lvf := fun x : Int × Int × Int => match x with | (z78, z79, z80) => [(9, vI z78), (7, vJ z79), (5, vJ z80), (0, vJ x0), (2, vJ x1), (4, vI x2)]) (fun x hI81x ih81 => ?_) (0, x0, x1) ⟨⟨by decide, by decide⟩, ⟨by omega, by omega⟩, ⟨by omega, by omega⟩, ⟨_, (by omega), hF⟩⟩ rfl rfl
  obtain ⟨z78, z79, z80⟩ := x
  obtain ⟨bz78, bz79, bz80, nf81, hn81, hF⟩ := hI81x
  try dsimp only
  obtain ⟨nf81, rfl⟩ : ∃ mm, nf81 = mm + 1 := ⟨nf81 - 1, (Nat.succ_pred_eq_of_pos (Nat.lt_of_le_of_lt (Nat.zero_le _) hn81)).symm⟩
  replace hF := hF.to (lop3_s hbd81)
  refine x_iload C.1 dX11_part_9 0 rfl ?_
  refine x_sipush C.1 (n := 200) dX11_part_11 ?_
  obtain ⟨jf98, hjf98, hF⟩ := jn_ex hF
  refine x_join (I := fun un98 : Unit => True ∧ Imp (jf98 un98) (f_s_part x0 x1 x2)) (wsf := fun un98 : Unit => []) (lvf := fun un98 : Unit => [(9, vI z78), (7, vJ z79), (5, vJ z80), (0, vJ x0), (2, vJ x1), (4, vI x2)]) (stf := fun un98 : Unit => []) 45 (fun un98 hI98x => ?_) (fun jn98 => ?_)
  · obtain ⟨_, hF⟩ := hI98x
    try dsimp only
    replace hF := hF.to (jn_s1 hjf98)
    refine x_lload C.1 dX11_part_45 2 rfl ?_
    refine x_lconst0 C.1 dX11_part_47 ?_
    refine x_lcmp C.1 rfl dX11_part_48 (by omega) (by decide) ?_
    have bz99 := lcI_r2 z80 0
    refine x_if_ne C.1 (tgt := 56) dX11_part_49 (by decide) (by omega) (fun hc100 => ?_) (fun hc100 => ?_)
    · replace hF := hF.to (if_pos hc100)
      rw [lcI_eq] at hc100
      refine x_iload C.1 dX11_part_56 5 rfl ?_
      refine x_if_ne C.1 (tgt := 65) dX11_part_58 (by decide) (by omega) (fun hc101 => ?_) (fun hc101 => ?_)
      · replace hF := hF.to (if_pos hc101)
        refine x_lload_n C.1 dX11_part_65 4 rfl ?_
        refine x_lload C.1 dX11_part_66 2 rfl ?_
        obtain ⟨z102, hz102, bz102⟩ : ∃ z : Int, jDiv x1 z80 = z ∧ R64 z := ⟨_, rfl, xj_r _⟩
        replace hF := hF.to (rdb_e (z := z102) hz102)
        refine x_ldiv C.1 (v := z102) hz102 dX11_part_68 (by omega) (by omega) ?_
        exact x_lret (S := Unit) (post := (fun a (u : Unit) => (f_s_part x0 x1 x2) a)) (w1 := (fun _ : Unit => [])) (a := z102) C hr rfl dX11_part_69 (by omega) () rfl (hF _ rfl)
      · replace hF := hF.to (if_neg (fun hh => hh hc101))
        refine x_lload_n C.1 dX11_part_61 3 rfl ?_
        refine x_goto C.1 (tgt := 66) dX11_part_62 (by decide) ?_
        refine x_lload C.1 dX11_part_66 2 rfl ?_
        obtain ⟨z103, hz103, bz103⟩ : ∃ z : Int, jDiv x0 z80 = z ∧ R64 z := ⟨_, rfl, xj_r _⟩
        replace hF := hF.to (rdb_e (z := z103) hz103)
        refine x_ldiv C.1 (v := z103) hz103 dX11_part_68 (by omega) (by omega) ?_
        exact x_lret (S := Unit) (post := (fun a (u : Unit) => (f_s_part x0 x1 x2) a)) (w1 := (fun _ : Unit => [])) (a := z103) C hr rfl dX11_part_69 (by omega) () rfl (hF _ rfl)
    · replace hF := hF.to (if_neg (fun hh => hh hc100))
      rw [lcI_eq] at hc100
      refine x_ldc2 C.1 (n := -1) wq_X11_201 dX11_part_52 ?_
      exact x_lret (S := Unit) (post := (fun a (u : Unit) => (f_s_part x0 x1 x2) a)) (w1 := (fun _ : Unit => [])) (a := (-1)) C hr rfl dX11_part_55 (by decide) () rfl (hF _ rfl)
  · refine x_icmp_ge C.1 (tgt := 45) dX11_part_14 (by decide) (by omega) (by decide) (fun hc104 => ?_) (fun hc104 => ?_)
    · replace hF := hF.to (if_pos hc104)
      exact jn98 (()) ⟨trivial, hF⟩
    · replace hF := hF.to (if_neg hc104)
      refine x_lload C.1 dX11_part_17 1 rfl ?_
      refine x_lconst0 C.1 dX11_part_19 ?_
      refine x_lcmp C.1 rfl dX11_part_20 (by omega) (by decide) ?_
      have bz105 := lcI_r2 z79 0
      refine x_if_eq C.1 (tgt := 45) dX11_part_21 (by decide) (by omega) (fun hc106 => ?_) (fun hc106 => ?_)
      · replace hF := hF.to (if_pos hc106)
        rw [lcI_eq] at hc106
        exact jn98 (()) ⟨trivial, hF⟩
      · replace hF := hF.to (if_neg hc106)
        rw [lcI_eq] at hc106
        refine x_lload C.1 dX11_part_24 2 rfl ?_
        refine x_lload C.1 dX11_part_26 1 rfl ?_
        obtain ⟨z107, hz107, bz107⟩ : ∃ z : Int, jRem z80 z79 = z ∧ R64 z := ⟨_, rfl, xj_r _⟩
        replace hF := hF.to (rdb_e (z := z107) hz107)
        refine x_lrem C.1 (v := z107) hz107 dX11_part_28 (by omega) (by omega) ?_
        refine x_lstore C.1 (lv' := [(10, vJ z107), (9, vI z78), (7, vJ z79), (5, vJ z80), (0, vJ x0), (2, vJ x1), (4, vI x2)]) dX11_part_29 (by decide) rfl ?_
        refine x_lload C.1 dX11_part_31 2 rfl ?_
        refine x_lstore C.1 (lv' := [(5, vJ z79), (10, vJ z107), (9, vI z78), (7, vJ z79), (0, vJ x0), (2, vJ x1), (4, vI x2)]) dX11_part_33 (by decide) rfl ?_
        refine x_lload C.1 dX11_part_35 1 rfl ?_
        refine x_lstore C.1 (lv' := [(7, vJ z107), (5, vJ z79), (10, vJ z107), (9, vI z78), (0, vJ x0), (2, vJ x1), (4, vI x2)]) dX11_part_37 (by decide) rfl ?_
        refine x_iinc C.1 (v := z78 + 1) (lv' := [(9, vI (z78 + 1)), (7, vJ z107), (5, vJ z79), (10, vJ z107), (0, vJ x0), (2, vJ x1), (4, vI x2)]) (by omega) dX11_part_39 3 rfl (by decide) rfl ?_
        refine x_goto C.1 (tgt := 9) dX11_part_42 (by decide) ?_
        refine x_lv [(9, vI (z78 + 1)), (7, vJ z107), (5, vJ z79), (0, vJ x0), (2, vJ x1), (4, vI x2)] [0, 1, 2, 4, 5, 6] rfl ?_
        have hmu81 : (201 - (z78 + 1)).toNat < (201 - z78).toNat := (by omega)
        exact ih81 (z78 + 1, z107, z79) ⟨⟨by omega, by omega⟩, ⟨by omega, by omega⟩, ⟨by omega, by omega⟩, ⟨nf81, Nat.lt_of_lt_of_le hmu81 (Nat.le_of_lt_succ hn81), hF⟩⟩ hmu81
theorem dX5_isDead_0 : decode cX5_isDead 0 = .ok (.aload_n 0, 1) := by decide +kernel
theorem dX5_isDead_1 : decode cX5_isDead 1 = .ok (.getfield 19, 3) := by decide +kernel
theorem dX5_isDead_4 : decode cX5_isDead 4 = .ok (.ifCond .eq 29, 3) := by decide +kernel
theorem dX5_isDead_7 : decode cX5_isDead 7 = .ok (.aload_n 0, 1) := by decide +kernel
theorem dX5_isDead_8 : decode cX5_isDead 8 = .ok (.getfield 32, 3) := by decide +kernel
theorem dX5_isDead_11 : decode cX5_isDead 11 = .ok (.aload_n 0, 1) := by decide +kernel
theorem dX5_isDead_12 : decode cX5_isDead 12 = .ok (.getfield 29, 3) := by decide +kernel
theorem dX5_isDead_15 : decode cX5_isDead 15 = .ok (.if_icmp .ge 14, 3) := by decide +kernel
theorem dX5_isDead_18 : decode cX5_isDead 18 = .ok (.aload_n 0, 1) := by decide +kernel
theorem dX5_isDead_19 : decode cX5_isDead 19 = .ok (.getfield 35, 3) := by decide +kernel
theorem dX5_isDead_22 : decode cX5_isDead 22 = .ok (.aload_n 0, 1) := by decide +kernel
theorem dX5_isDead_23 : decode cX5_isDead 23 = .ok (.getfield 29, 3) := by decide +kernel
theorem dX5_isDead_26 : decode cX5_isDead 26 = .ok (.if_icmp .lt 7, 3) := by decide +kernel
theorem dX5_isDead_29 : decode cX5_isDead 29 = .ok (.iconst 1, 1) := by decide +kernel
theorem dX5_isDead_30 : decode cX5_isDead 30 = .ok (.goto 4, 3) := by decide +kernel
theorem dX5_isDead_33 : decode cX5_isDead 33 = .ok (.iconst 0, 1) := by decide +kernel
theorem dX5_isDead_34 : decode cX5_isDead 34 = .ok (.ireturn, 1) := by decide +kernel
set_option maxRecDepth 100000 in
def f_s_isDeadP (k0 : Nat) (V : Nat → Nat → Int) (J : Nat → Nat → Int) (Rr : Nat → Nat → Nat) : (Int) → Prop :=
  rdb (V k0 0) fun z1 => fct (0 ≤ z1 ∧ z1 ≤ 1) <| (if z1 = 0 then rtn 0 else rdb (V k0 4) fun z3 => rdb (V k0 3) fun z4 => (if z4 ≤ z3 then rtn 1 else rdb (V k0 5) fun z6 => (if z6 < z4 then rtn 0 else rtn 1)))
set_option maxHeartbeats 8000000 in
set_option maxRecDepth 100000 in
theorem s_isDeadP (l : Launch) (D : va_G) (cy : Nat → ClassId) (ad : Nat → Nat) (G : Nat → Nat → Int) (V J : Nat → Nat → Int) (Rr : Nat → Nat → Nat) (hI : XI G V) (hJ : VJ J) (hR : XR Rr) (k0 : Nat) (hk0 : isPl k0) : xMi l D (xTY cy) yX5_isDead cX5_isDead 1 (some .boolean) 0 0 0 0 [.ref (ad k0)] (XW cy ad V J Rr) (fun _ : Unit => XW cy ad V J Rr) (fun a (u : Unit) => (0 ≤ a ∧ a ≤ 1) ∧ (f_s_isDeadP k0 V J Rr) a) := by
  refine xMi.mk (lv0 := [(0, .ref (ad k0))]) (by decide) rfl (Nat.le_of_ble_eq_true rfl) (fun p e s m below meth c A C hr hnm hAe => ?_)
  have C : xC2 p s m _ meth c D A s.heap 1 cX5_isDead RX5 (xTY cy) := C
  have hF := Imp.of_eq (f_s_isDeadP.eq_def k0 V J Rr)
  refine x_aload_n C.1 dX5_isDead_0 0 rfl ?_
  obtain ⟨z1, ez1, bz1⟩ := hI.rd k0 0 (x := 0) (y := 1) (rg_P hk0 0)
  replace hF := hF.to (rdb_e (z := z1) ez1)
  replace hF := hF.fc bz1
  refine x_getI C (N := 129) (i := k0) (Nat.lt_of_succ_lt hk0.1) hk0.2.1 vc_X5 wx_X5 0 (by decide) wf_X5_19 rfl dX5_isDead_1 (a := z1) ez1 ?_
  refine x_if_eq C.1 (tgt := 33) dX5_isDead_4 (by decide) (by omega) (fun hc2 => ?_) (fun hc2 => ?_)
  · replace hF := hF.to (if_pos hc2)
    refine x_iconst C.1 (n := 0) dX5_isDead_33 ?_
    exact x_zret (S := Unit) (post := (fun a (u : Unit) => (0 ≤ a ∧ a ≤ 1) ∧ (f_s_isDeadP k0 V J Rr) a)) (w1 := (fun _ : Unit => XW cy ad V J Rr)) (a := 0) C hr rfl dX5_isDead_34 (by decide) () rfl ⟨⟨by decide, by decide⟩, hF _ rfl⟩
  · replace hF := hF.to (if_neg hc2)
    refine x_aload_n C.1 dX5_isDead_7 0 rfl ?_
    obtain ⟨z3, ez3, bz3⟩ := hI.rd k0 4 (x := -2147483648) (y := 2147483647) (rg_P hk0 4)
    replace hF := hF.to (rdb_e (z := z3) ez3)
    refine x_getI C (N := 129) (i := k0) (Nat.lt_of_succ_lt hk0.1) hk0.2.1 vc_X5 wx_X5 4 (by decide) wf_X5_32 rfl dX5_isDead_8 (a := z3) ez3 ?_
    refine x_aload_n C.1 dX5_isDead_11 0 rfl ?_
    obtain ⟨z4, ez4, bz4⟩ := hI.rd k0 3 (x := -2147483648) (y := 2147483647) (rg_P hk0 3)
    replace hF := hF.to (rdb_e (z := z4) ez4)
    refine x_getI C (N := 129) (i := k0) (Nat.lt_of_succ_lt hk0.1) hk0.2.1 vc_X5 wx_X5 3 (by decide) wf_X5_29 rfl dX5_isDead_12 (a := z4) ez4 ?_
    refine x_icmp_ge C.1 (tgt := 29) dX5_isDead_15 (by decide) (by omega) (by omega) (fun hc5 => ?_) (fun hc5 => ?_)
    · replace hF := hF.to (if_pos hc5)
      refine x_iconst C.1 (n := 1) dX5_isDead_29 ?_
      refine x_goto C.1 (tgt := 34) dX5_isDead_30 (by decide) ?_
      exact x_zret (S := Unit) (post := (fun a (u : Unit) => (0 ≤ a ∧ a ≤ 1) ∧ (f_s_isDeadP k0 V J Rr) a)) (w1 := (fun _ : Unit => XW cy ad V J Rr)) (a := 1) C hr rfl dX5_isDead_34 (by decide) () rfl ⟨⟨by decide, by decide⟩, hF _ rfl⟩
    · replace hF := hF.to (if_neg hc5)
      refine x_aload_n C.1 dX5_isDead_18 0 rfl ?_
      obtain ⟨z6, ez6, bz6⟩ := hI.rd k0 5 (x := -2147483648) (y := 2147483647) (rg_P hk0 5)
      replace hF := hF.to (rdb_e (z := z6) ez6)
      refine x_getI C (N := 129) (i := k0) (Nat.lt_of_succ_lt hk0.1) hk0.2.1 vc_X5 wx_X5 5 (by decide) wf_X5_35 rfl dX5_isDead_19 (a := z6) ez6 ?_
      refine x_aload_n C.1 dX5_isDead_22 0 rfl ?_
      refine x_getI C (N := 129) (i := k0) (Nat.lt_of_succ_lt hk0.1) hk0.2.1 vc_X5 wx_X5 3 (by decide) wf_X5_29 rfl dX5_isDead_23 (a := z4) ez4 ?_
      refine x_icmp_lt C.1 (tgt := 33) dX5_isDead_26 (by decide) (by omega) (by omega) (fun hc7 => ?_) (fun hc7 => ?_)
      · replace hF := hF.to (if_pos hc7)
        refine x_iconst C.1 (n := 0) dX5_isDead_33 ?_
        exact x_zret (S := Unit) (post := (fun a (u : Unit) => (0 ≤ a ∧ a ≤ 1) ∧ (f_s_isDeadP k0 V J Rr) a)) (w1 := (fun _ : Unit => XW cy ad V J Rr)) (a := 0) C hr rfl dX5_isDead_34 (by decide) () rfl ⟨⟨by decide, by decide⟩, hF _ rfl⟩
      · replace hF := hF.to (if_neg hc7)
        refine x_iconst C.1 (n := 1) dX5_isDead_29 ?_
        refine x_goto C.1 (tgt := 34) dX5_isDead_30 (by decide) ?_
        exact x_zret (S := Unit) (post := (fun a (u : Unit) => (0 ≤ a ∧ a ≤ 1) ∧ (f_s_isDeadP k0 V J Rr) a)) (w1 := (fun _ : Unit => XW cy ad V J Rr)) (a := 1) C hr rfl dX5_isDead_34 (by decide) () rfl ⟨⟨by decide, by decide⟩, hF _ rfl⟩
theorem dX5_wetBy_0 : decode cX5_wetBy 0 = .ok (.aload_n 0, 1) := by decide +kernel
theorem dX5_wetBy_1 : decode cX5_wetBy 1 = .ok (.getfield 26, 3) := by decide +kernel
theorem dX5_wetBy_4 : decode cX5_wetBy 4 = .ok (.iload_n 1, 1) := by decide +kernel
theorem dX5_wetBy_5 : decode cX5_wetBy 5 = .ok (.iadd, 1) := by decide +kernel
theorem dX5_wetBy_6 : decode cX5_wetBy 6 = .ok (.istore_n 2, 1) := by decide +kernel
theorem dX5_wetBy_7 : decode cX5_wetBy 7 = .ok (.aload_n 0, 1) := by decide +kernel
theorem dX5_wetBy_8 : decode cX5_wetBy 8 = .ok (.iload_n 2, 1) := by decide +kernel
theorem dX5_wetBy_9 : decode cX5_wetBy 9 = .ok (.aload_n 0, 1) := by decide +kernel
theorem dX5_wetBy_10 : decode cX5_wetBy 10 = .ok (.getfield 23, 3) := by decide +kernel
theorem dX5_wetBy_13 : decode cX5_wetBy 13 = .ok (.invokestatic 53, 3) := by decide +kernel
theorem dX5_wetBy_16 : decode cX5_wetBy 16 = .ok (.putfield 26, 3) := by decide +kernel
theorem dX5_wetBy_19 : decode cX5_wetBy 19 = .ok (.iload_n 2, 1) := by decide +kernel
theorem dX5_wetBy_20 : decode cX5_wetBy 20 = .ok (.aload_n 0, 1) := by decide +kernel
theorem dX5_wetBy_21 : decode cX5_wetBy 21 = .ok (.getfield 26, 3) := by decide +kernel
theorem dX5_wetBy_24 : decode cX5_wetBy 24 = .ok (.isub, 1) := by decide +kernel
theorem dX5_wetBy_25 : decode cX5_wetBy 25 = .ok (.ireturn, 1) := by decide +kernel
set_option maxRecDepth 100000 in
def f_s_wetBy (k0 : Nat) (x1 : Int) (V : Nat → Nat → Int) (J : Nat → Nat → Int) (Rr : Nat → Nat → Nat) : (Int × (Nat → Nat → Int)) → Prop :=
  rdb (V k0 2) fun z1 => rdb (wr (z1 + x1)) fun z2 => rdb (V k0 1) fun z3 => rdb (min z2 z3) fun z4 => rdb (up2 V k0 2 z4) fun V5 => rdb (wr (z2 - z4)) fun z6 => rtn (z6, V5)
set_option maxHeartbeats 8000000 in
set_option maxRecDepth 100000 in
theorem s_wetBy (l : Launch) (D : va_G) (cy : Nat → ClassId) (ad : Nat → Nat) (G : Nat → Nat → Int) (V J : Nat → Nat → Int) (Rr : Nat → Nat → Nat) (hI : XI G V) (hJ : VJ J) (hR : XR Rr) (k0 : Nat) (hk0 : isPl k0) (x1 : Int) (bx1 : -2147483648 ≤ x1 ∧ x1 ≤ 2147483647) : xMi l D (xTY cy) yX5_wetBy cX5_wetBy 3 (some .int) 1 21 0 0 [.ref (ad k0), vI x1] (XW cy ad V J Rr) (fun u : Nat → Nat → Int => XW cy ad u J Rr) (fun a (u : Nat → Nat → Int) => XI G u ∧ FB (fun i k : Nat => (k0 ≤ i ∧ i ≤ k0 + 1)) V u ∧ (f_s_wetBy k0 x1 V J Rr) (a, u)) := by
  refine xMi.mk (lv0 := [(0, .ref (ad k0)), (1, vI x1)]) (by decide) rfl (Nat.le_of_ble_eq_true rfl) (fun p e s m below meth c A C hr hnm hAe => ?_)
  have C : xC2 p s m _ meth c D A s.heap 3 cX5_wetBy RX5 (xTY cy) := C
  have hB : FB (fun i k : Nat => (k0 ≤ i ∧ i ≤ k0 + 1)) V V := FB.rf _ _
  have hF := Imp.of_eq (f_s_wetBy.eq_def k0 x1 V J Rr)
  refine x_aload_n C.1 dX5_wetBy_0 0 rfl ?_
  obtain ⟨z1, ez1, bz1⟩ := hI.rd k0 2 (x := -2147483648) (y := 2147483647) (rg_P hk0 2)
  replace hF := hF.to (rdb_e (z := z1) ez1)
  refine x_getI C (N := 129) (i := k0) (Nat.lt_of_succ_lt hk0.1) hk0.2.1 vc_X5 wx_X5 2 (by decide) wf_X5_26 rfl dX5_wetBy_1 (a := z1) ez1 ?_
  refine x_iload_n C.1 dX5_wetBy_4 1 rfl ?_
  refine x_iadd C.1 (v := z1 + x1) (by omega) dX5_wetBy_5 ?_
  refine x_wrapg ?_
  intro z2 bz2 ew2
  replace hF := hF.to (rdb_e (z := z2) ew2.symm)
  refine x_istore_n C.1 (lv' := [(2, vI z2), (0, .ref (ad k0)), (1, vI x1)]) dX5_wetBy_6 (by decide) rfl ?_
  refine x_aload_n C.1 dX5_wetBy_7 1 rfl ?_
  refine x_iload_n C.1 dX5_wetBy_8 0 rfl ?_
  refine x_aload_n C.1 dX5_wetBy_9 1 rfl ?_
  obtain ⟨z3, ez3, bz3⟩ := hI.rd k0 1 (x := -2147483648) (y := 2147483647) (rg_P hk0 1)
  replace hF := hF.to (rdb_e (z := z3) ez3)
  refine x_getI C (N := 129) (i := k0) (Nat.lt_of_succ_lt hk0.1) hk0.2.1 vc_X5 wx_X5 1 (by decide) wf_X5_23 rfl dX5_wetBy_10 (a := z3) ez3 ?_
  refine x_mmin C wl_X5_53 (by omega) (by omega) dX5_wetBy_13 ⟨Nat.le_of_ble_eq_true rfl, Nat.le_of_ble_eq_true rfl⟩ (Nat.le_of_ble_eq_true rfl) ⟨Nat.le_of_ble_eq_true rfl, Nat.le_of_ble_eq_true rfl⟩ (fun z4 hx4 => ?_)
  have bz4 : -2147483648 ≤ z4 ∧ z4 ≤ 2147483647 := by omega
  replace hF := hF.to (rdb_e (z := z4) (by omega))
  clear hx4
  refine x_putI C (N := 129) (i := k0) (Nat.lt_of_succ_lt hk0.1) hk0.2.1 vc_X5 wx_X5 2 (by decide) wf_X5_26 tyX5 tyX5_ok nmX5 rfl (tyX5_ok 2 (by decide)) rfl dX5_wetBy_16 rfl rfl ?_
  refine x_gV ?_
  intro V5 hV5
  have hI5 : XI G V5 := hI.up hV5 (rg_P hk0 2) (by omega) (pr_P hk0 rfl rfl)
  have hB5 := hB.up hV5 (⟨Nat.le_refl _, by omega⟩)
  replace hF := hF.to (rdb_e (z := V5) hV5.symm)
  refine x_iload_n C.1 dX5_wetBy_19 0 rfl ?_
  refine x_aload_n C.1 dX5_wetBy_20 1 rfl ?_
  refine x_getI C (N := 129) (i := k0) (Nat.lt_of_succ_lt hk0.1) hk0.2.1 vc_X5 wx_X5 2 (by decide) wf_X5_26 rfl dX5_wetBy_21 (a := z4) ((congrFun (congrFun hV5 k0) 2).trans (up2_s _ _ _ _)) ?_
  refine x_isub C.1 (v := z2 - z4) (by omega) dX5_wetBy_24 ?_
  refine x_wrapg ?_
  intro z6 bz6 ew6
  replace hF := hF.to (rdb_e (z := z6) ew6.symm)
  exact x_iret (S := (Nat → Nat → Int)) (post := (fun a (u : Nat → Nat → Int) => XI G u ∧ FB (fun i k : Nat => (k0 ≤ i ∧ i ≤ k0 + 1)) V u ∧ (f_s_wetBy k0 x1 V J Rr) (a, u))) (w1 := (fun u : Nat → Nat → Int => XW cy ad u J Rr)) (a := z6) C hr rfl dX5_wetBy_25 (by omega) V5 rfl ⟨hI5, hB5, hF _ rfl⟩
theorem dX5_dryBy_0 : decode cX5_dryBy 0 = .ok (.aload_n 0, 1) := by decide +kernel
theorem dX5_dryBy_1 : decode cX5_dryBy 1 = .ok (.iconst 0, 1) := by decide +kernel
theorem dX5_dryBy_2 : decode cX5_dryBy 2 = .ok (.aload_n 0, 1) := by decide +kernel
theorem dX5_dryBy_3 : decode cX5_dryBy 3 = .ok (.getfield 26, 3) := by decide +kernel
theorem dX5_dryBy_6 : decode cX5_dryBy 6 = .ok (.iload_n 1, 1) := by decide +kernel
theorem dX5_dryBy_7 : decode cX5_dryBy 7 = .ok (.isub, 1) := by decide +kernel
theorem dX5_dryBy_8 : decode cX5_dryBy 8 = .ok (.invokestatic 59, 3) := by decide +kernel
theorem dX5_dryBy_11 : decode cX5_dryBy 11 = .ok (.putfield 26, 3) := by decide +kernel
theorem dX5_dryBy_14 : decode cX5_dryBy 14 = .ok (.aload_n 0, 1) := by decide +kernel
theorem dX5_dryBy_15 : decode cX5_dryBy 15 = .ok (.aload_n 0, 1) := by decide +kernel
theorem dX5_dryBy_16 : decode cX5_dryBy 16 = .ok (.getfield 26, 3) := by decide +kernel
theorem dX5_dryBy_19 : decode cX5_dryBy 19 = .ok (.ifCond .ne 12, 3) := by decide +kernel
theorem dX5_dryBy_22 : decode cX5_dryBy 22 = .ok (.aload_n 0, 1) := by decide +kernel
theorem dX5_dryBy_23 : decode cX5_dryBy 23 = .ok (.getfield 32, 3) := by decide +kernel
theorem dX5_dryBy_26 : decode cX5_dryBy 26 = .ok (.iconst 1, 1) := by decide +kernel
theorem dX5_dryBy_27 : decode cX5_dryBy 27 = .ok (.iadd, 1) := by decide +kernel
theorem dX5_dryBy_28 : decode cX5_dryBy 28 = .ok (.goto 4, 3) := by decide +kernel
theorem dX5_dryBy_31 : decode cX5_dryBy 31 = .ok (.iconst 0, 1) := by decide +kernel
theorem dX5_dryBy_32 : decode cX5_dryBy 32 = .ok (.putfield 32, 3) := by decide +kernel
theorem dX5_dryBy_35 : decode cX5_dryBy 35 = .ok (.aload_n 0, 1) := by decide +kernel
theorem dX5_dryBy_36 : decode cX5_dryBy 36 = .ok (.aload_n 0, 1) := by decide +kernel
theorem dX5_dryBy_37 : decode cX5_dryBy 37 = .ok (.getfield 26, 3) := by decide +kernel
theorem dX5_dryBy_40 : decode cX5_dryBy 40 = .ok (.aload_n 0, 1) := by decide +kernel
theorem dX5_dryBy_41 : decode cX5_dryBy 41 = .ok (.getfield 23, 3) := by decide +kernel
theorem dX5_dryBy_44 : decode cX5_dryBy 44 = .ok (.if_icmp .ne 12, 3) := by decide +kernel
theorem dX5_dryBy_47 : decode cX5_dryBy 47 = .ok (.aload_n 0, 1) := by decide +kernel
theorem dX5_dryBy_48 : decode cX5_dryBy 48 = .ok (.getfield 35, 3) := by decide +kernel
theorem dX5_dryBy_51 : decode cX5_dryBy 51 = .ok (.iconst 1, 1) := by decide +kernel
theorem dX5_dryBy_52 : decode cX5_dryBy 52 = .ok (.iadd, 1) := by decide +kernel
theorem dX5_dryBy_53 : decode cX5_dryBy 53 = .ok (.goto 4, 3) := by decide +kernel
theorem dX5_dryBy_56 : decode cX5_dryBy 56 = .ok (.iconst 0, 1) := by decide +kernel
theorem dX5_dryBy_57 : decode cX5_dryBy 57 = .ok (.putfield 35, 3) := by decide +kernel
theorem dX5_dryBy_60 : decode cX5_dryBy 60 = .ok (.aload_n 0, 1) := by decide +kernel
theorem dX5_dryBy_61 : decode cX5_dryBy 61 = .ok (.getfield 15, 3) := by decide +kernel
theorem dX5_dryBy_64 : decode cX5_dryBy 64 = .ok (.iconst 0, 1) := by decide +kernel
theorem dX5_dryBy_65 : decode cX5_dryBy 65 = .ok (.aload_n 0, 1) := by decide +kernel
theorem dX5_dryBy_66 : decode cX5_dryBy 66 = .ok (.getfield 15, 3) := by decide +kernel
theorem dX5_dryBy_69 : decode cX5_dryBy 69 = .ok (.iconst 1, 1) := by decide +kernel
theorem dX5_dryBy_70 : decode cX5_dryBy 70 = .ok (.bipush 6, 2) := by decide +kernel
theorem dX5_dryBy_72 : decode cX5_dryBy 72 = .ok (.invokestatic 47, 3) := by decide +kernel
theorem dX5_dryBy_75 : decode cX5_dryBy 75 = .ok (.aload_n 0, 1) := by decide +kernel
theorem dX5_dryBy_76 : decode cX5_dryBy 76 = .ok (.getfield 15, 3) := by decide +kernel
theorem dX5_dryBy_79 : decode cX5_dryBy 79 = .ok (.iconst 0, 1) := by decide +kernel
theorem dX5_dryBy_80 : decode cX5_dryBy 80 = .ok (.aload_n 0, 1) := by decide +kernel
theorem dX5_dryBy_81 : decode cX5_dryBy 81 = .ok (.getfield 26, 3) := by decide +kernel
theorem dX5_dryBy_84 : decode cX5_dryBy 84 = .ok (.iastore, 1) := by decide +kernel
theorem dX5_dryBy_85 : decode cX5_dryBy 85 = .ok (.return_, 1) := by decide +kernel
set_option maxRecDepth 100000 in
def f_s_dryBy (k0 : Nat) (x1 : Int) (V : Nat → Nat → Int) (J : Nat → Nat → Int) (Rr : Nat → Nat → Nat) : (Nat → Nat → Int) → Prop :=
  rdb (V k0 2) fun z1 => rdb (wr (z1 - x1)) fun z2 => rdb (max 0 z2) fun z3 => fct (0 ≤ z3 ∧ z3 ≤ 2147483647) <| rdb (up2 V k0 2 z3) fun V4 => jnk (fun (z7 : Int) => rdb (up2 V4 k0 4 z7) fun V9 => rdb (V9 k0 1) fun z10 => jnk (fun (z13 : Int) => rdb (up2 V9 k0 5 z13) fun V15 => rdb (cpV V15 (k0 + 1) 0 (k0 + 1) 1 6) fun V16 => rdb (V16 k0 2) fun z17 => rdb (up2 V16 (k0 + 1) 0 z17) fun V18 => rtn V18) fun jf14 => (if ¬ z3 = z10 then jf14 0 else rdb (V9 k0 5) fun z20 => rdb (wr (z20 + 1)) fun z21 => jf14 z21)) fun jf8 => (if ¬ z3 = 0 then jf8 0 else rdb (V4 k0 4) fun z23 => rdb (wr (z23 + 1)) fun z24 => jf8 z24)
set_option maxHeartbeats 8000000 in
set_option maxRecDepth 100000 in
theorem s_dryBy (l : Launch) (D : va_G) (cy : Nat → ClassId) (ad : Nat → Nat) (G : Nat → Nat → Int) (V J : Nat → Nat → Int) (Rr : Nat → Nat → Nat) (hI : XI G V) (hJ : VJ J) (hR : XR Rr) (k0 : Nat) (hk0 : isPl k0) (x1 : Int) (bx1 : -2147483648 ≤ x1 ∧ x1 ≤ 2147483647) : xMv l D (xTY cy) yX5_dryBy cX5_dryBy 2 none 1 48 0 0 [.ref (ad k0), vI x1] (XW cy ad V J Rr) (fun u : Nat → Nat → Int => XW cy ad u J Rr) (fun u : Nat → Nat → Int => XI G u ∧ FB (fun i k : Nat => (k0 ≤ i ∧ i ≤ k0 + 1)) V u ∧ (f_s_dryBy k0 x1 V J Rr) u) := by
  refine xMv.mk (lv0 := [(0, .ref (ad k0)), (1, vI x1)]) (by decide) rfl (Nat.le_of_ble_eq_true rfl) (fun p e s m below meth c A C hr hnm hAe => ?_)
  have C : xC2 p s m _ meth c D A s.heap 2 cX5_dryBy RX5 (xTY cy) := C
  have hB : FB (fun i k : Nat => (k0 ≤ i ∧ i ≤ k0 + 1)) V V := FB.rf _ _
  have hF := Imp.of_eq (f_s_dryBy.eq_def k0 x1 V J Rr)
  refine x_aload_n C.1 dX5_dryBy_0 0 rfl ?_
  refine x_iconst C.1 (n := 0) dX5_dryBy_1 ?_
  refine x_aload_n C.1 dX5_dryBy_2 0 rfl ?_
  obtain ⟨z1, ez1, bz1⟩ := hI.rd k0 2 (x := -2147483648) (y := 2147483647) (rg_P hk0 2)
  replace hF := hF.to (rdb_e (z := z1) ez1)
  refine x_getI C (N := 129) (i := k0) (Nat.lt_of_succ_lt hk0.1) hk0.2.1 vc_X5 wx_X5 2 (by decide) wf_X5_26 rfl dX5_dryBy_3 (a := z1) ez1 ?_
  refine x_iload_n C.1 dX5_dryBy_6 1 rfl ?_
  refine x_isub C.1 (v := z1 - x1) (by omega) dX5_dryBy_7 ?_
  refine x_wrapg ?_
  intro z2 bz2 ew2
  replace hF := hF.to (rdb_e (z := z2) ew2.symm)
  refine x_mmax C wl_X5_59 (by decide) (by omega) dX5_dryBy_8 ⟨Nat.le_of_ble_eq_true rfl, Nat.le_of_ble_eq_true rfl⟩ (Nat.le_of_ble_eq_true rfl) ⟨Nat.le_of_ble_eq_true rfl, Nat.le_of_ble_eq_true rfl⟩ (fun z3 hx3 => ?_)
  have bz3 : 0 ≤ z3 ∧ z3 ≤ 2147483647 := by omega
  replace hF := hF.to (rdb_e (z := z3) (by omega))
  replace hF := hF.fc bz3
  clear hx3
  refine x_putI C (N := 129) (i := k0) (Nat.lt_of_succ_lt hk0.1) hk0.2.1 vc_X5 wx_X5 2 (by decide) wf_X5_26 tyX5 tyX5_ok nmX5 rfl (tyX5_ok 2 (by decide)) rfl dX5_dryBy_11 rfl rfl ?_
  refine x_gV ?_
  intro V4 hV4
  have hI4 : XI G V4 := hI.up hV4 (rg_P hk0 2) (by omega) (pr_P hk0 rfl rfl)
  have hB4 := hB.up hV4 (⟨Nat.le_refl _, by omega⟩)
  replace hF := hF.to (rdb_e (z := V4) hV4.symm)
  refine x_aload_n C.1 dX5_dryBy_14 0 rfl ?_
  refine x_aload_n C.1 dX5_dryBy_15 0 rfl ?_
  refine x_getI C (N := 129) (i := k0) (Nat.lt_of_succ_lt hk0.1) hk0.2.1 vc_X5 wx_X5 2 (by decide) wf_X5_26 rfl dX5_dryBy_16 (a := z3) ((congrFun (congrFun hV4 k0) 2).trans (up2_s _ _ _ _)) ?_
  obtain ⟨jf8, hjf8, hF⟩ := jn_ex hF
  refine x_join (I := fun z7 : Int => (-2147483648 ≤ z7 ∧ z7 ≤ 2147483647) ∧ Imp (jf8 z7) (f_s_dryBy k0 x1 V J Rr)) (wsf := fun z7 : Int => XW cy ad V4 J Rr) (lvf := fun z7 : Int => [(0, .ref (ad k0)), (1, vI x1)]) (stf := fun z7 : Int => [vI z7, .ref (ad k0)]) 32 (fun z7 hI8x => ?_) (fun jn8 => ?_)
  · obtain ⟨bz7, hF⟩ := hI8x
    try dsimp only
    replace hF := hF.to (jn_s1 hjf8)
    refine x_putI C (N := 129) (i := k0) (Nat.lt_of_succ_lt hk0.1) hk0.2.1 vc_X5 wx_X5 4 (by decide) wf_X5_32 tyX5 tyX5_ok nmX5 rfl (tyX5_ok 4 (by decide)) rfl dX5_dryBy_32 rfl rfl ?_
    refine x_gV ?_
    intro V9 hV9
    have hI9 : XI G V9 := hI4.up hV9 (rg_P hk0 4) (by omega) (pr_P hk0 rfl rfl)
    have hB9 := hB4.up hV9 (⟨Nat.le_refl _, by omega⟩)
    replace hF := hF.to (rdb_e (z := V9) hV9.symm)
    refine x_aload_n C.1 dX5_dryBy_35 0 rfl ?_
    refine x_aload_n C.1 dX5_dryBy_36 0 rfl ?_
    refine x_getI C (N := 129) (i := k0) (Nat.lt_of_succ_lt hk0.1) hk0.2.1 vc_X5 wx_X5 2 (by decide) wf_X5_26 rfl dX5_dryBy_37 (a := z3) ((congrFun (congrFun hV9 k0) 2).trans ((up2_n _ _ (Or.inr (by decide))).trans ((congrFun (congrFun hV4 k0) 2).trans (up2_s _ _ _ _)))) ?_
    refine x_aload_n C.1 dX5_dryBy_40 0 rfl ?_
    obtain ⟨z10, ez10, bz10⟩ := hI9.rd k0 1 (x := -2147483648) (y := 2147483647) (rg_P hk0 1)
    replace hF := hF.to (rdb_e (z := z10) ez10)
    refine x_getI C (N := 129) (i := k0) (Nat.lt_of_succ_lt hk0.1) hk0.2.1 vc_X5 wx_X5 1 (by decide) wf_X5_23 rfl dX5_dryBy_41 (a := z10) ez10 ?_
    obtain ⟨jf14, hjf14, hF⟩ := jn_ex hF
    refine x_join (I := fun z13 : Int => (-2147483648 ≤ z13 ∧ z13 ≤ 2147483647) ∧ Imp (jf14 z13) (f_s_dryBy k0 x1 V J Rr)) (wsf := fun z13 : Int => XW cy ad V9 J Rr) (lvf := fun z13 : Int => [(0, .ref (ad k0)), (1, vI x1)]) (stf := fun z13 : Int => [vI z13, .ref (ad k0)]) 57 (fun z13 hI14x => ?_) (fun jn14 => ?_)
    · obtain ⟨bz13, hF⟩ := hI14x
      try dsimp only
      replace hF := hF.to (jn_s1 hjf14)
      refine x_putI C (N := 129) (i := k0) (Nat.lt_of_succ_lt hk0.1) hk0.2.1 vc_X5 wx_X5 5 (by decide) wf_X5_35 tyX5 tyX5_ok nmX5 rfl (tyX5_ok 5 (by decide)) rfl dX5_dryBy_57 rfl rfl ?_
      refine x_gV ?_
      intro V15 hV15
      have hI15 : XI G V15 := hI9.up hV15 (rg_P hk0 5) (by omega) (pr_P hk0 rfl rfl)
      have hB15 := hB9.up hV15 (⟨Nat.le_refl _, by omega⟩)
      replace hF := hF.to (rdb_e (z := V15) hV15.symm)
      refine x_aload_n C.1 dX5_dryBy_60 0 rfl ?_
      refine x_getA C (N := 129) (i := k0) (Nat.lt_of_succ_lt hk0.1) hk0.2.1 vc_X5 wx_X5 8 (by decide) wf_X5_15 (a := k0 + 1) rfl dX5_dryBy_61 ?_
      refine x_iconst C.1 (n := 0) dX5_dryBy_64 ?_
      refine x_aload_n C.1 dX5_dryBy_65 0 rfl ?_
      refine x_getA C (N := 129) (i := k0) (Nat.lt_of_succ_lt hk0.1) hk0.2.1 vc_X5 wx_X5 8 (by decide) wf_X5_15 (a := k0 + 1) rfl dX5_dryBy_66 ?_
      refine x_iconst C.1 (n := 1) dX5_dryBy_69 ?_
      refine x_bipush C.1 (n := 6) dX5_dryBy_70 ?_
      refine x_copyi C wl_X5_47 (N := 129) (i := k0 + 1) (j := k0 + 1) hk0.1 hk0.1 hk0.2.2 hk0.2.2 0 1 6 (by decide) (by decide) (by decide) (by decide) (Nat.le_of_ble_eq_true rfl) (Nat.le_of_ble_eq_true rfl) dX5_dryBy_72 ?_
      refine x_gV ?_
      intro V16 hV16
      have hI16 : XI G V16 := XI.cp hI15 hV16 (x := -2147483648) (y := 2147483647) (fun _ => (rg_K hk0 _)) (fun _ => (rg_K hk0 _)) (fun _ => (pr_K hk0 _))
      have hB16 := hB15.cp hV16 (fun k => (⟨by omega, by omega⟩))
      replace hF := hF.to (rdb_e (z := V16) hV16.symm)
      refine x_aload_n C.1 dX5_dryBy_75 0 rfl ?_
      refine x_getA C (N := 129) (i := k0) (Nat.lt_of_succ_lt hk0.1) hk0.2.1 vc_X5 wx_X5 8 (by decide) wf_X5_15 (a := k0 + 1) rfl dX5_dryBy_76 ?_
      refine x_iconst C.1 (n := 0) dX5_dryBy_79 ?_
      refine x_aload_n C.1 dX5_dryBy_80 0 rfl ?_
      obtain ⟨z17, ez17, bz17⟩ := hI16.rd k0 2 (x := -2147483648) (y := 2147483647) (rg_P hk0 2)
      replace hF := hF.to (rdb_e (z := z17) ez17)
      refine x_getI C (N := 129) (i := k0) (Nat.lt_of_succ_lt hk0.1) hk0.2.1 vc_X5 wx_X5 2 (by decide) wf_X5_26 rfl dX5_dryBy_81 (a := z17) ez17 ?_
      refine x_iast C (N := 129) (i := k0 + 1) (q := 0) (a := z17) hk0.1 hk0.2.2 (by decide) (by decide) dX5_dryBy_84 ?_
      rw [show (0 : Int).toNat = 0 from rfl]
      refine x_gV ?_
      intro V18 hV18
      have hI18 : XI G V18 := hI16.up hV18 (rg_K hk0 _) (by omega) (pr_K hk0 _)
      have hB18 := hB16.up hV18 (⟨by omega, by omega⟩)
      replace hF := hF.to (rdb_e (z := V18) hV18.symm)
      exact x_vret (S := (Nat → Nat → Int)) (post := (fun u : Nat → Nat → Int => XI G u ∧ FB (fun i k : Nat => (k0 ≤ i ∧ i ≤ k0 + 1)) V u ∧ (f_s_dryBy k0 x1 V J Rr) u)) (w1 := (fun u : Nat → Nat → Int => XW cy ad u J Rr)) C hr rfl dX5_dryBy_85 V18 rfl ⟨hI18, hB18, hF _ rfl⟩
    · refine x_icmp_ne C.1 (tgt := 56) dX5_dryBy_44 (by decide) (by omega) (by omega) (fun hc19 => ?_) (fun hc19 => ?_)
      · replace hF := hF.to (if_pos hc19)
        refine x_iconst C.1 (n := 0) dX5_dryBy_56 ?_
        exact jn14 0 ⟨⟨by decide, by decide⟩, hF⟩
      · replace hF := hF.to (if_neg (fun hh => hh hc19))
        refine x_aload_n C.1 dX5_dryBy_47 0 rfl ?_
        obtain ⟨z20, ez20, bz20⟩ := hI9.rd k0 5 (x := -2147483648) (y := 2147483647) (rg_P hk0 5)
        replace hF := hF.to (rdb_e (z := z20) ez20)
        refine x_getI C (N := 129) (i := k0) (Nat.lt_of_succ_lt hk0.1) hk0.2.1 vc_X5 wx_X5 5 (by decide) wf_X5_35 rfl dX5_dryBy_48 (a := z20) ez20 ?_
        refine x_iconst C.1 (n := 1) dX5_dryBy_51 ?_
        refine x_iadd C.1 (v := z20 + 1) (by omega) dX5_dryBy_52 ?_
        refine x_wrapg ?_
        intro z21 bz21 ew21
        replace hF := hF.to (rdb_e (z := z21) ew21.symm)
        refine x_goto C.1 (tgt := 57) dX5_dryBy_53 (by decide) ?_
        exact jn14 z21 ⟨⟨by omega, by omega⟩, hF⟩
  · refine x_if_ne C.1 (tgt := 31) dX5_dryBy_19 (by decide) (by omega) (fun hc22 => ?_) (fun hc22 => ?_)
    · replace hF := hF.to (if_pos hc22)
      refine x_iconst C.1 (n := 0) dX5_dryBy_31 ?_
      exact jn8 0 ⟨⟨by decide, by decide⟩, hF⟩
    · replace hF := hF.to (if_neg (fun hh => hh hc22))
      refine x_aload_n C.1 dX5_dryBy_22 0 rfl ?_
      obtain ⟨z23, ez23, bz23⟩ := hI4.rd k0 4 (x := -2147483648) (y := 2147483647) (rg_P hk0 4)
      replace hF := hF.to (rdb_e (z := z23) ez23)
      refine x_getI C (N := 129) (i := k0) (Nat.lt_of_succ_lt hk0.1) hk0.2.1 vc_X5 wx_X5 4 (by decide) wf_X5_32 rfl dX5_dryBy_23 (a := z23) ez23 ?_
      refine x_iconst C.1 (n := 1) dX5_dryBy_26 ?_
      refine x_iadd C.1 (v := z23 + 1) (by omega) dX5_dryBy_27 ?_
      refine x_wrapg ?_
      intro z24 bz24 ew24
      replace hF := hF.to (rdb_e (z := z24) ew24.symm)
      refine x_goto C.1 (tgt := 32) dX5_dryBy_28 (by decide) ?_
      exact jn8 z24 ⟨⟨by omega, by omega⟩, hF⟩
theorem hd_yX11_isPlace : yX11_isPlace.cls ≠ "java/lang/invoke/MethodHandle" ∧ yX11_isPlace.cls ≠ "java/lang/invoke/VarHandle" ∧ (parseMethodDescriptor yX11_isPlace.desc).map (fun d => d.parameters.length) = some 2 := by decide +kernel
theorem nst_X3_55 : (RX3, 55, yX11_isPlace, RX11) ∈ xNst := by simp [xNst]
theorem dX3_isPlant_0 : decode cX3_isPlant 0 = .ok (.iload_n 1, 1) := by decide +kernel
theorem dX3_isPlant_1 : decode cX3_isPlant 1 = .ok (.iconst 4, 1) := by decide +kernel
theorem dX3_isPlant_2 : decode cX3_isPlant 2 = .ok (.invokestatic 55, 3) := by decide +kernel
theorem dX3_isPlant_5 : decode cX3_isPlant 5 = .ok (.ifCond .eq 19, 3) := by decide +kernel
theorem dX3_isPlant_8 : decode cX3_isPlant 8 = .ok (.aload_n 0, 1) := by decide +kernel
theorem dX3_isPlant_9 : decode cX3_isPlant 9 = .ok (.getfield 11, 3) := by decide +kernel
theorem dX3_isPlant_12 : decode cX3_isPlant 12 = .ok (.iload_n 1, 1) := by decide +kernel
theorem dX3_isPlant_13 : decode cX3_isPlant 13 = .ok (.aaload, 1) := by decide +kernel
theorem dX3_isPlant_14 : decode cX3_isPlant 14 = .ok (.getfield 59, 3) := by decide +kernel
theorem dX3_isPlant_17 : decode cX3_isPlant 17 = .ok (.ifCond .eq 7, 3) := by decide +kernel
theorem dX3_isPlant_20 : decode cX3_isPlant 20 = .ok (.iconst 1, 1) := by decide +kernel
theorem dX3_isPlant_21 : decode cX3_isPlant 21 = .ok (.goto 4, 3) := by decide +kernel
theorem dX3_isPlant_24 : decode cX3_isPlant 24 = .ok (.iconst 0, 1) := by decide +kernel
theorem dX3_isPlant_25 : decode cX3_isPlant 25 = .ok (.ireturn, 1) := by decide +kernel
set_option maxRecDepth 100000 in
def f_s_isPlant (k0 : Nat) (x1 : Int) (V : Nat → Nat → Int) (J : Nat → Nat → Int) (Rr : Nat → Nat → Nat) : (Int) → Prop :=
  calR (f_s_isPlace x1 4) fun z1 => fct (0 ≤ z1 ∧ z1 ≤ 1) <| (if z1 = 0 then rtn 0 else rdb (k0 + 3 + 2 * x1.toNat) fun c4 => rdb (V c4 0) fun z5 => fct (0 ≤ z5 ∧ z5 ≤ 1) <| (if z5 = 0 then rtn 0 else rtn 1))
set_option maxHeartbeats 8000000 in
set_option maxRecDepth 100000 in
theorem s_isPlant (l : Launch) (D : va_G) (cy : Nat → ClassId) (ad : Nat → Nat) (G : Nat → Nat → Int) (V J : Nat → Nat → Int) (Rr : Nat → Nat → Nat) (hI : XI G V) (hJ : VJ J) (hR : XR Rr) (k0 : Nat) (hk0 : isLa k0) (x1 : Int) (bx1 : -2147483648 ≤ x1 ∧ x1 ≤ 2147483647) : xMi l D (xTY cy) yX3_isPlant cX3_isPlant 2 (some .boolean) 1 21 0 0 [.ref (ad k0), vI x1] (XW cy ad V J Rr) (fun _ : Unit => XW cy ad V J Rr) (fun a (u : Unit) => Sp a ((0 ≤ x1 ∧ x1 ≤ 3)) ∧ (f_s_isPlant k0 x1 V J Rr) a) := by
  refine xMi.mk (lv0 := [(0, .ref (ad k0)), (1, vI x1)]) (by decide) rfl (Nat.le_of_ble_eq_true rfl) (fun p e s m below meth c A C hr hnm hAe => ?_)
  have C : xC2 p s m _ meth c D A s.heap 2 cX3_isPlant RX3 (xTY cy) := C
  have hF := Imp.of_eq (f_s_isPlant.eq_def k0 x1 V J Rr)
  refine x_iload_n C.1 dX3_isPlant_0 1 rfl ?_
  refine x_iconst C.1 (n := 4) dX3_isPlant_1 ?_
  refine x_callSNi C (As := [vI x1, vI 4]) (rest := []) (s_isPlace l D cy x1 ⟨by omega, by omega⟩ 4 ⟨by decide, by decide⟩) (l1 := []) (l2 := _) rfl (w2 := fun _ => _) (fun _ => rfl) rfl wm_yX11_isPlace wn_X11 (host := RX11) nst_X3_55 wi_yX11_isPlace hd_yX11_isPlace rfl ⟨Nat.le_of_ble_eq_true rfl, Nat.le_of_ble_eq_true rfl⟩ (Nat.le_of_ble_eq_true rfl) ⟨Nat.le_of_ble_eq_true rfl, Nat.le_of_ble_eq_true rfl⟩ dX3_isPlant_2 (fun z1 u1 bz1 h1 => ?_)
  obtain ⟨bq1, hx1_0, hFc1⟩ := h1
  replace hF := calR_i hF hFc1
  replace hF := hF.fc bq1
  refine x_if_eq C.1 (tgt := 24) dX3_isPlant_5 (by decide) (by omega) (fun hc2 => ?_) (fun hc2 => ?_)
  · replace hF := hF.to (if_pos hc2)
    refine x_iconst C.1 (n := 0) dX3_isPlant_24 ?_
    exact x_zret (S := Unit) (post := (fun a (u : Unit) => Sp a ((0 ≤ x1 ∧ x1 ≤ 3)) ∧ (f_s_isPlant k0 x1 V J Rr) a)) (w1 := (fun _ : Unit => XW cy ad V J Rr)) (a := 0) C hr rfl dX3_isPlant_25 (by decide) () rfl ⟨Or.inl rfl, hF _ rfl⟩
  · replace hF := hF.to (if_neg hc2)
    have hon3 := Sq.on hx1_0 (by omega)
    refine x_aload_n C.1 dX3_isPlant_8 0 rfl ?_
    refine x_getA C (N := 129) (i := k0) (by omega) (xd_L hk0) vc_X3 wx_X3 0 (by decide) wf_X3_11 (a := k0 + 1) rfl dX3_isPlant_9 ?_
    refine x_iload_n C.1 dX3_isPlant_12 1 rfl ?_
    obtain ⟨c4, ec4, hc4⟩ : ∃ cx : Nat, k0 + 3 + 2 * x1.toNat = cx ∧ isPl cx := ⟨_, rfl, isPl_L hk0 (by omega)⟩
    replace hF := hF.to (rdb_e (z := c4) ec4)
    refine x_aldS C (N := 129) (i := k0 + 1) (q := x1) (t := 4) rfl (by omega) (xd_La hk0) (by omega) (by decide) dX3_isPlant_13 (a := c4) ec4 ?_
    obtain ⟨z5, ez5, bz5⟩ := hI.rd c4 0 (x := 0) (y := 1) (rg_P hc4 0)
    replace hF := hF.to (rdb_e (z := z5) ez5)
    replace hF := hF.fc bz5
    refine x_getI C (N := 129) (i := c4) (Nat.lt_of_succ_lt hc4.1) hc4.2.1 vc_X5 wx_X5 0 (by decide) wf_X3_59 rfl dX3_isPlant_14 (a := z5) ez5 ?_
    refine x_if_eq C.1 (tgt := 24) dX3_isPlant_17 (by decide) (by omega) (fun hc6 => ?_) (fun hc6 => ?_)
    · replace hF := hF.to (if_pos hc6)
      refine x_iconst C.1 (n := 0) dX3_isPlant_24 ?_
      exact x_zret (S := Unit) (post := (fun a (u : Unit) => Sp a ((0 ≤ x1 ∧ x1 ≤ 3)) ∧ (f_s_isPlant k0 x1 V J Rr) a)) (w1 := (fun _ : Unit => XW cy ad V J Rr)) (a := 0) C hr rfl dX3_isPlant_25 (by decide) () rfl ⟨Or.inl rfl, hF _ rfl⟩
    · replace hF := hF.to (if_neg hc6)
      refine x_iconst C.1 (n := 1) dX3_isPlant_20 ?_
      refine x_goto C.1 (tgt := 25) dX3_isPlant_21 (by decide) ?_
      exact x_zret (S := Unit) (post := (fun a (u : Unit) => Sp a ((0 ≤ x1 ∧ x1 ≤ 3)) ∧ (f_s_isPlant k0 x1 V J Rr) a)) (w1 := (fun _ : Unit => XW cy ad V J Rr)) (a := 1) C hr rfl dX3_isPlant_25 (by decide) () rfl ⟨Or.inr ⟨rfl, by omega⟩, hF _ rfl⟩
theorem hd_yX3_isPlant : yX3_isPlant.cls ≠ "java/lang/invoke/MethodHandle" ∧ yX3_isPlant.cls ≠ "java/lang/invoke/VarHandle" ∧ (parseMethodDescriptor yX3_isPlant.desc).map (fun d => d.parameters.length) = some 1 := by decide +kernel
theorem hd_yX5_isDead : yX5_isDead.cls ≠ "java/lang/invoke/MethodHandle" ∧ yX5_isDead.cls ≠ "java/lang/invoke/VarHandle" ∧ (parseMethodDescriptor yX5_isDead.desc).map (fun d => d.parameters.length) = some 0 := by decide +kernel
theorem dX3_isAlive_0 : decode cX3_isAlive 0 = .ok (.aload_n 0, 1) := by decide +kernel
theorem dX3_isAlive_1 : decode cX3_isAlive 1 = .ok (.iload_n 1, 1) := by decide +kernel
theorem dX3_isAlive_2 : decode cX3_isAlive 2 = .ok (.invokevirtual 60, 3) := by decide +kernel
theorem dX3_isAlive_5 : decode cX3_isAlive 5 = .ok (.ifCond .eq 19, 3) := by decide +kernel
theorem dX3_isAlive_8 : decode cX3_isAlive 8 = .ok (.aload_n 0, 1) := by decide +kernel
theorem dX3_isAlive_9 : decode cX3_isAlive 9 = .ok (.getfield 11, 3) := by decide +kernel
theorem dX3_isAlive_12 : decode cX3_isAlive 12 = .ok (.iload_n 1, 1) := by decide +kernel
theorem dX3_isAlive_13 : decode cX3_isAlive 13 = .ok (.aaload, 1) := by decide +kernel
theorem dX3_isAlive_14 : decode cX3_isAlive 14 = .ok (.invokevirtual 64, 3) := by decide +kernel
theorem dX3_isAlive_17 : decode cX3_isAlive 17 = .ok (.ifCond .ne 7, 3) := by decide +kernel
theorem dX3_isAlive_20 : decode cX3_isAlive 20 = .ok (.iconst 1, 1) := by decide +kernel
theorem dX3_isAlive_21 : decode cX3_isAlive 21 = .ok (.goto 4, 3) := by decide +kernel
theorem dX3_isAlive_24 : decode cX3_isAlive 24 = .ok (.iconst 0, 1) := by decide +kernel
theorem dX3_isAlive_25 : decode cX3_isAlive 25 = .ok (.ireturn, 1) := by decide +kernel
set_option maxRecDepth 100000 in
def f_s_isAlive (k0 : Nat) (x1 : Int) (V : Nat → Nat → Int) (J : Nat → Nat → Int) (Rr : Nat → Nat → Nat) : (Int) → Prop :=
  calR (f_s_isPlant k0 x1 V J Rr) fun z1 => fct (0 ≤ z1 ∧ z1 ≤ 1) <| (if z1 = 0 then rtn 0 else rdb (k0 + 3 + 2 * x1.toNat) fun c4 => calR (f_s_isDeadP c4 V J Rr) fun z5 => fct (0 ≤ z5 ∧ z5 ≤ 1) <| (if ¬ z5 = 0 then rtn 0 else rtn 1))
set_option maxHeartbeats 8000000 in
set_option maxRecDepth 100000 in
theorem s_isAlive (l : Launch) (D : va_G) (cy : Nat → ClassId) (ad : Nat → Nat) (G : Nat → Nat → Int) (V J : Nat → Nat → Int) (Rr : Nat → Nat → Nat) (hI : XI G V) (hJ : VJ J) (hR : XR Rr) (k0 : Nat) (hk0 : isLa k0) (x1 : Int) (bx1 : -2147483648 ≤ x1 ∧ x1 ≤ 2147483647) : xMi l D (xTY cy) yX3_isAlive cX3_isAlive 2 (some .boolean) 2 42 0 0 [.ref (ad k0), vI x1] (XW cy ad V J Rr) (fun _ : Unit => XW cy ad V J Rr) (fun a (u : Unit) => Sp a ((0 ≤ x1 ∧ x1 ≤ 3)) ∧ (f_s_isAlive k0 x1 V J Rr) a) := by
  refine xMi.mk (lv0 := [(0, .ref (ad k0)), (1, vI x1)]) (by decide) rfl (Nat.le_of_ble_eq_true rfl) (fun p e s m below meth c A C hr hnm hAe => ?_)
  have C : xC2 p s m _ meth c D A s.heap 2 cX3_isAlive RX3 (xTY cy) := C
  have hF := Imp.of_eq (f_s_isAlive.eq_def k0 x1 V J Rr)
  refine x_aload_n C.1 dX3_isAlive_0 0 rfl ?_
  refine x_iload_n C.1 dX3_isAlive_1 1 rfl ?_
  refine x_callVi C (As := [vI x1]) (rest := []) k0 (xw_at (N := 129) (i := k0) (by omega) (xd_L hk0)) vc_X3 (s_isPlant l D cy ad G V J Rr hI hJ hR k0 hk0 x1 ⟨by omega, by omega⟩) (l1 := []) (l2 := []) (List.append_nil _).symm (w2 := fun _ => XW cy ad V J Rr) (fun _ => List.append_nil _) rfl wm_yX3_isPlant wn_X3 wl_X3_60 wi_yX3_isPlant we_yX3_isPlant hd_yX3_isPlant rfl ⟨Nat.le_of_ble_eq_true rfl, Nat.le_of_ble_eq_true rfl⟩ (Nat.le_of_ble_eq_true rfl) ⟨Nat.le_of_ble_eq_true rfl, Nat.le_of_ble_eq_true rfl⟩ dX3_isAlive_2 (fun z1 u1 bz1 h1 => ?_)
  obtain ⟨hon1, hFc1⟩ := h1
  replace hF := calR_i hF hFc1
  replace hF := hF.fc hon1.r
  have bq1 := Sp.r hon1
  refine x_if_eq C.1 (tgt := 24) dX3_isAlive_5 (by decide) (by omega) (fun hc2 => ?_) (fun hc2 => ?_)
  · replace hF := hF.to (if_pos hc2)
    refine x_iconst C.1 (n := 0) dX3_isAlive_24 ?_
    exact x_zret (S := Unit) (post := (fun a (u : Unit) => Sp a ((0 ≤ x1 ∧ x1 ≤ 3)) ∧ (f_s_isAlive k0 x1 V J Rr) a)) (w1 := (fun _ : Unit => XW cy ad V J Rr)) (a := 0) C hr rfl dX3_isAlive_25 (by decide) () rfl ⟨Or.inl rfl, hF _ rfl⟩
  · replace hF := hF.to (if_neg hc2)
    have hon3 := Sp.on hon1 (by omega)
    refine x_aload_n C.1 dX3_isAlive_8 0 rfl ?_
    refine x_getA C (N := 129) (i := k0) (by omega) (xd_L hk0) vc_X3 wx_X3 0 (by decide) wf_X3_11 (a := k0 + 1) rfl dX3_isAlive_9 ?_
    refine x_iload_n C.1 dX3_isAlive_12 1 rfl ?_
    obtain ⟨c4, ec4, hc4⟩ : ∃ cx : Nat, k0 + 3 + 2 * x1.toNat = cx ∧ isPl cx := ⟨_, rfl, isPl_L hk0 (by omega)⟩
    replace hF := hF.to (rdb_e (z := c4) ec4)
    refine x_aldS C (N := 129) (i := k0 + 1) (q := x1) (t := 4) rfl (by omega) (xd_La hk0) (by omega) (by decide) dX3_isAlive_13 (a := c4) ec4 ?_
    refine x_callVi C (As := []) (rest := []) c4 (xw_at (N := 129) (i := c4) (Nat.lt_of_succ_lt hc4.1) hc4.2.1) vc_X5 (s_isDeadP l D cy ad G V J Rr hI hJ hR c4 hc4) (l1 := []) (l2 := []) (List.append_nil _).symm (w2 := fun _ => XW cy ad V J Rr) (fun _ => List.append_nil _) rfl wm_yX5_isDead wn_X5 wl_X3_64 wi_yX5_isDead we_yX5_isDead hd_yX5_isDead rfl ⟨Nat.le_of_ble_eq_true rfl, Nat.le_of_ble_eq_true rfl⟩ (Nat.le_of_ble_eq_true rfl) ⟨Nat.le_of_ble_eq_true rfl, Nat.le_of_ble_eq_true rfl⟩ dX3_isAlive_14 (fun z5 u5 bz5 h5 => ?_)
    obtain ⟨bq5, hFc5⟩ := h5
    replace hF := calR_i hF hFc5
    replace hF := hF.fc bq5
    refine x_if_ne C.1 (tgt := 24) dX3_isAlive_17 (by decide) (by omega) (fun hc6 => ?_) (fun hc6 => ?_)
    · replace hF := hF.to (if_pos hc6)
      refine x_iconst C.1 (n := 0) dX3_isAlive_24 ?_
      exact x_zret (S := Unit) (post := (fun a (u : Unit) => Sp a ((0 ≤ x1 ∧ x1 ≤ 3)) ∧ (f_s_isAlive k0 x1 V J Rr) a)) (w1 := (fun _ : Unit => XW cy ad V J Rr)) (a := 0) C hr rfl dX3_isAlive_25 (by decide) () rfl ⟨Or.inl rfl, hF _ rfl⟩
    · replace hF := hF.to (if_neg (fun hh => hh hc6))
      refine x_iconst C.1 (n := 1) dX3_isAlive_20 ?_
      refine x_goto C.1 (tgt := 25) dX3_isAlive_21 (by decide) ?_
      exact x_zret (S := Unit) (post := (fun a (u : Unit) => Sp a ((0 ≤ x1 ∧ x1 ≤ 3)) ∧ (f_s_isAlive k0 x1 V J Rr) a)) (w1 := (fun _ : Unit => XW cy ad V J Rr)) (a := 1) C hr rfl dX3_isAlive_25 (by decide) () rfl ⟨Or.inr ⟨rfl, by omega⟩, hF _ rfl⟩
theorem dX3_isPerson_0 : decode cX3_isPerson 0 = .ok (.iload_n 1, 1) := by decide +kernel
theorem dX3_isPerson_1 : decode cX3_isPerson 1 = .ok (.bipush 8, 2) := by decide +kernel
theorem dX3_isPerson_3 : decode cX3_isPerson 3 = .ok (.invokestatic 55, 3) := by decide +kernel
theorem dX3_isPerson_6 : decode cX3_isPerson 6 = .ok (.ifCond .eq 19, 3) := by decide +kernel
theorem dX3_isPerson_9 : decode cX3_isPerson 9 = .ok (.aload_n 0, 1) := by decide +kernel
theorem dX3_isPerson_10 : decode cX3_isPerson 10 = .ok (.getfield 19, 3) := by decide +kernel
theorem dX3_isPerson_13 : decode cX3_isPerson 13 = .ok (.iload_n 1, 1) := by decide +kernel
theorem dX3_isPerson_14 : decode cX3_isPerson 14 = .ok (.aaload, 1) := by decide +kernel
theorem dX3_isPerson_15 : decode cX3_isPerson 15 = .ok (.getfield 42, 3) := by decide +kernel
theorem dX3_isPerson_18 : decode cX3_isPerson 18 = .ok (.ifCond .eq 7, 3) := by decide +kernel
theorem dX3_isPerson_21 : decode cX3_isPerson 21 = .ok (.iconst 1, 1) := by decide +kernel
theorem dX3_isPerson_22 : decode cX3_isPerson 22 = .ok (.goto 4, 3) := by decide +kernel
theorem dX3_isPerson_25 : decode cX3_isPerson 25 = .ok (.iconst 0, 1) := by decide +kernel
theorem dX3_isPerson_26 : decode cX3_isPerson 26 = .ok (.ireturn, 1) := by decide +kernel
set_option maxRecDepth 100000 in
def f_s_isPerson (k0 : Nat) (x1 : Int) (V : Nat → Nat → Int) (J : Nat → Nat → Int) (Rr : Nat → Nat → Nat) : (Int) → Prop :=
  calR (f_s_isPlace x1 8) fun z1 => fct (0 ≤ z1 ∧ z1 ≤ 1) <| (if z1 = 0 then rtn 0 else rdb (k0 + 11 + 1 * x1.toNat) fun c4 => rdb (V c4 0) fun z5 => fct (0 ≤ z5 ∧ z5 ≤ 1) <| (if z5 = 0 then rtn 0 else rtn 1))
set_option maxHeartbeats 8000000 in
set_option maxRecDepth 100000 in
theorem s_isPerson (l : Launch) (D : va_G) (cy : Nat → ClassId) (ad : Nat → Nat) (G : Nat → Nat → Int) (V J : Nat → Nat → Int) (Rr : Nat → Nat → Nat) (hI : XI G V) (hJ : VJ J) (hR : XR Rr) (k0 : Nat) (hk0 : isLa k0) (x1 : Int) (bx1 : -2147483648 ≤ x1 ∧ x1 ≤ 2147483647) : xMi l D (xTY cy) yX3_isPerson cX3_isPerson 2 (some .boolean) 1 21 0 0 [.ref (ad k0), vI x1] (XW cy ad V J Rr) (fun _ : Unit => XW cy ad V J Rr) (fun a (u : Unit) => Sp a ((0 ≤ x1 ∧ x1 ≤ 7)) ∧ (f_s_isPerson k0 x1 V J Rr) a) := by
  refine xMi.mk (lv0 := [(0, .ref (ad k0)), (1, vI x1)]) (by decide) rfl (Nat.le_of_ble_eq_true rfl) (fun p e s m below meth c A C hr hnm hAe => ?_)
  have C : xC2 p s m _ meth c D A s.heap 2 cX3_isPerson RX3 (xTY cy) := C
  have hF := Imp.of_eq (f_s_isPerson.eq_def k0 x1 V J Rr)
  refine x_iload_n C.1 dX3_isPerson_0 1 rfl ?_
  refine x_bipush C.1 (n := 8) dX3_isPerson_1 ?_
  refine x_callSNi C (As := [vI x1, vI 8]) (rest := []) (s_isPlace l D cy x1 ⟨by omega, by omega⟩ 8 ⟨by decide, by decide⟩) (l1 := []) (l2 := _) rfl (w2 := fun _ => _) (fun _ => rfl) rfl wm_yX11_isPlace wn_X11 (host := RX11) nst_X3_55 wi_yX11_isPlace hd_yX11_isPlace rfl ⟨Nat.le_of_ble_eq_true rfl, Nat.le_of_ble_eq_true rfl⟩ (Nat.le_of_ble_eq_true rfl) ⟨Nat.le_of_ble_eq_true rfl, Nat.le_of_ble_eq_true rfl⟩ dX3_isPerson_3 (fun z1 u1 bz1 h1 => ?_)
  obtain ⟨bq1, hx1_0, hFc1⟩ := h1
  replace hF := calR_i hF hFc1
  replace hF := hF.fc bq1
  refine x_if_eq C.1 (tgt := 25) dX3_isPerson_6 (by decide) (by omega) (fun hc2 => ?_) (fun hc2 => ?_)
  · replace hF := hF.to (if_pos hc2)
    refine x_iconst C.1 (n := 0) dX3_isPerson_25 ?_
    exact x_zret (S := Unit) (post := (fun a (u : Unit) => Sp a ((0 ≤ x1 ∧ x1 ≤ 7)) ∧ (f_s_isPerson k0 x1 V J Rr) a)) (w1 := (fun _ : Unit => XW cy ad V J Rr)) (a := 0) C hr rfl dX3_isPerson_26 (by decide) () rfl ⟨Or.inl rfl, hF _ rfl⟩
  · replace hF := hF.to (if_neg hc2)
    have hon3 := Sq.on hx1_0 (by omega)
    refine x_aload_n C.1 dX3_isPerson_9 0 rfl ?_
    refine x_getA C (N := 129) (i := k0) (by omega) (xd_L hk0) vc_X3 wx_X3 1 (by decide) wf_X3_19 (a := k0 + 2) rfl dX3_isPerson_10 ?_
    refine x_iload_n C.1 dX3_isPerson_13 1 rfl ?_
    obtain ⟨c4, ec4, hc4⟩ : ∃ cx : Nat, k0 + 11 + 1 * x1.toNat = cx ∧ isPe cx := ⟨_, rfl, isPe_L hk0 (by omega)⟩
    replace hF := hF.to (rdb_e (z := c4) ec4)
    refine x_aldS C (N := 129) (i := k0 + 2) (q := x1) (t := 5) rfl (by omega) (xd_Lb hk0) (by omega) (by decide) dX3_isPerson_14 (a := c4) ec4 ?_
    obtain ⟨z5, ez5, bz5⟩ := hI.rd c4 0 (x := 0) (y := 1) (rg_E hc4 0)
    replace hF := hF.to (rdb_e (z := z5) ez5)
    replace hF := hF.fc bz5
    refine x_getI C (N := 129) (i := c4) hc4.1 hc4.2 vc_X4 wx_X4 0 (by decide) wf_X3_42 rfl dX3_isPerson_15 (a := z5) ez5 ?_
    refine x_if_eq C.1 (tgt := 25) dX3_isPerson_18 (by decide) (by omega) (fun hc6 => ?_) (fun hc6 => ?_)
    · replace hF := hF.to (if_pos hc6)
      refine x_iconst C.1 (n := 0) dX3_isPerson_25 ?_
      exact x_zret (S := Unit) (post := (fun a (u : Unit) => Sp a ((0 ≤ x1 ∧ x1 ≤ 7)) ∧ (f_s_isPerson k0 x1 V J Rr) a)) (w1 := (fun _ : Unit => XW cy ad V J Rr)) (a := 0) C hr rfl dX3_isPerson_26 (by decide) () rfl ⟨Or.inl rfl, hF _ rfl⟩
    · replace hF := hF.to (if_neg hc6)
      refine x_iconst C.1 (n := 1) dX3_isPerson_21 ?_
      refine x_goto C.1 (tgt := 26) dX3_isPerson_22 (by decide) ?_
      exact x_zret (S := Unit) (post := (fun a (u : Unit) => Sp a ((0 ≤ x1 ∧ x1 ≤ 7)) ∧ (f_s_isPerson k0 x1 V J Rr) a)) (w1 := (fun _ : Unit => XW cy ad V J Rr)) (a := 1) C hr rfl dX3_isPerson_26 (by decide) () rfl ⟨Or.inr ⟨rfl, by omega⟩, hF _ rfl⟩
theorem dX3_toldPlants_0 : decode cX3_toldPlants 0 = .ok (.iconst 0, 1) := by decide +kernel
theorem dX3_toldPlants_1 : decode cX3_toldPlants 1 = .ok (.istore_n 1, 1) := by decide +kernel
theorem dX3_toldPlants_2 : decode cX3_toldPlants 2 = .ok (.iconst 0, 1) := by decide +kernel
theorem dX3_toldPlants_3 : decode cX3_toldPlants 3 = .ok (.istore_n 2, 1) := by decide +kernel
theorem dX3_toldPlants_4 : decode cX3_toldPlants 4 = .ok (.iload_n 2, 1) := by decide +kernel
theorem dX3_toldPlants_5 : decode cX3_toldPlants 5 = .ok (.iconst 4, 1) := by decide +kernel
theorem dX3_toldPlants_6 : decode cX3_toldPlants 6 = .ok (.if_icmp .ge 31, 3) := by decide +kernel
theorem dX3_toldPlants_9 : decode cX3_toldPlants 9 = .ok (.iload_n 1, 1) := by decide +kernel
theorem dX3_toldPlants_10 : decode cX3_toldPlants 10 = .ok (.aload_n 0, 1) := by decide +kernel
theorem dX3_toldPlants_11 : decode cX3_toldPlants 11 = .ok (.getfield 11, 3) := by decide +kernel
theorem dX3_toldPlants_14 : decode cX3_toldPlants 14 = .ok (.iload_n 2, 1) := by decide +kernel
theorem dX3_toldPlants_15 : decode cX3_toldPlants 15 = .ok (.aaload, 1) := by decide +kernel
theorem dX3_toldPlants_16 : decode cX3_toldPlants 16 = .ok (.getfield 59, 3) := by decide +kernel
theorem dX3_toldPlants_19 : decode cX3_toldPlants 19 = .ok (.ifCond .eq 9, 3) := by decide +kernel
theorem dX3_toldPlants_22 : decode cX3_toldPlants 22 = .ok (.iconst 1, 1) := by decide +kernel
theorem dX3_toldPlants_23 : decode cX3_toldPlants 23 = .ok (.iload_n 2, 1) := by decide +kernel
theorem dX3_toldPlants_24 : decode cX3_toldPlants 24 = .ok (.ishl, 1) := by decide +kernel
theorem dX3_toldPlants_25 : decode cX3_toldPlants 25 = .ok (.goto 4, 3) := by decide +kernel
theorem dX3_toldPlants_28 : decode cX3_toldPlants 28 = .ok (.iconst 0, 1) := by decide +kernel
theorem dX3_toldPlants_29 : decode cX3_toldPlants 29 = .ok (.ior, 1) := by decide +kernel
theorem dX3_toldPlants_30 : decode cX3_toldPlants 30 = .ok (.istore_n 1, 1) := by decide +kernel
theorem dX3_toldPlants_31 : decode cX3_toldPlants 31 = .ok (.iinc 2 1, 3) := by decide +kernel
theorem dX3_toldPlants_34 : decode cX3_toldPlants 34 = .ok (.goto (-30), 3) := by decide +kernel
theorem dX3_toldPlants_37 : decode cX3_toldPlants 37 = .ok (.iload_n 1, 1) := by decide +kernel
theorem dX3_toldPlants_38 : decode cX3_toldPlants 38 = .ok (.ireturn, 1) := by decide +kernel
set_option maxRecDepth 100000 in
def f_s_toldPlants (k0 : Nat) (V : Nat → Nat → Int) (J : Nat → Nat → Int) (Rr : Nat → Nat → Nat) : (Int) → Prop :=
  lop2 (6) (fun rc61 (z59 : Int) (z60 : Int) => (if 4 ≤ z59 then rtn z60 else rdb (k0 + 3 + 2 * z59.toNat) fun c72 => rdb (V c72 0) fun z73 => fct (0 ≤ z73 ∧ z73 ≤ 1) <| jnk (fun (z75 : Int) => rdb (iOr z60 z75) fun z77 => rc61 (z59 + 1) z77) fun jf76 => (if z73 = 0 then jf76 0 else rdb (iShl 1 z59) fun z79 => jf76 z79))) 0 0
set_option maxHeartbeats 8000000 in
set_option maxRecDepth 100000 in
theorem s_toldPlants (l : Launch) (D : va_G) (cy : Nat → ClassId) (ad : Nat → Nat) (G : Nat → Nat → Int) (V J : Nat → Nat → Int) (Rr : Nat → Nat → Nat) (hI : XI G V) (hJ : VJ J) (hR : XR Rr) (k0 : Nat) (hk0 : isLa k0) : xMi l D (xTY cy) yX3_toldPlants cX3_toldPlants 3 (some .int) 0 0 0 0 [.ref (ad k0)] (XW cy ad V J Rr) (fun _ : Unit => XW cy ad V J Rr) (fun a (u : Unit) => (f_s_toldPlants k0 V J Rr) a) := by
  refine xMi.mk (lv0 := [(0, .ref (ad k0))]) (by decide) rfl (Nat.le_of_ble_eq_true rfl) (fun p e s m below meth c A C hr hnm hAe => ?_)
  have C : xC2 p s m _ meth c D A s.heap 3 cX3_toldPlants RX3 (xTY cy) := C
  have hF := Imp.of_eq (f_s_toldPlants.eq_def k0 V J Rr)
  refine x_iconst C.1 (n := 0) dX3_toldPlants_0 ?_
  refine x_istore_n C.1 (lv' := [(1, vI 0), (0, .ref (ad k0))]) dX3_toldPlants_1 (by decide) rfl ?_
  refine x_iconst C.1 (n := 0) dX3_toldPlants_2 ?_
  refine x_istore_n C.1 (lv' := [(2, vI 0), (1, vI 0), (0, .ref (ad k0))]) dX3_toldPlants_3 (by decide) rfl ?_
  obtain ⟨bd61, hbd61, hF⟩ := lop2_ex hF
  refine x_loop (I := fun x : Int × Int => match x with | (z59, z60) => (0 ≤ z59 ∧ z59 ≤ 4) ∧ (-2147483648 ≤ z60 ∧ z60 ≤ 2147483647) ∧ (∃ nf : Nat, (5 - z59).toNat < nf ∧ Imp (lop2 nf bd61 z59 z60) (f_s_toldPlants k0 V J Rr))) (μ := fun x : Int × Int => match x with | (z59, z60) => (5 - z59).toNat) (wsf := fun x : Int × Int => match x with | (z59, z60) => XW cy ad V J Rr) (lvf := fun x : Int × Int => match x with | (z59, z60) => [(2, vI z59), (1, vI z60), (0, .ref (ad k0))]) (fun x hI61x ih61 => ?_) (0, 0) ⟨⟨by decide, by decide⟩, ⟨by decide, by decide⟩, ⟨_, (by omega), hF⟩⟩ rfl rfl
  obtain ⟨z59, z60⟩ := x
  obtain ⟨bz59, bz60, nf61, hn61, hF⟩ := hI61x
  try dsimp only
  obtain ⟨nf61, rfl⟩ : ∃ mm, nf61 = mm + 1 := ⟨nf61 - 1, (Nat.succ_pred_eq_of_pos (Nat.lt_of_le_of_lt (Nat.zero_le _) hn61)).symm⟩
  replace hF := hF.to (lop2_s hbd61)
  refine x_iload_n C.1 dX3_toldPlants_4 0 rfl ?_
  refine x_iconst C.1 (n := 4) dX3_toldPlants_5 ?_
  refine x_icmp_ge C.1 (tgt := 37) dX3_toldPlants_6 (by decide) (by omega) (by decide) (fun hc71 => ?_) (fun hc71 => ?_)
  · replace hF := hF.to (if_pos hc71)
    refine x_iload_n C.1 dX3_toldPlants_37 1 rfl ?_
    exact x_iret (S := Unit) (post := (fun a (u : Unit) => (f_s_toldPlants k0 V J Rr) a)) (w1 := (fun _ : Unit => XW cy ad V J Rr)) (a := z60) C hr rfl dX3_toldPlants_38 (by omega) () rfl (hF _ rfl)
  · replace hF := hF.to (if_neg hc71)
    refine x_iload_n C.1 dX3_toldPlants_9 1 rfl ?_
    refine x_aload_n C.1 dX3_toldPlants_10 2 rfl ?_
    refine x_getA C (N := 129) (i := k0) (by omega) (xd_L hk0) vc_X3 wx_X3 0 (by decide) wf_X3_11 (a := k0 + 1) rfl dX3_toldPlants_11 ?_
    refine x_iload_n C.1 dX3_toldPlants_14 0 rfl ?_
    obtain ⟨c72, ec72, hc72⟩ : ∃ cx : Nat, k0 + 3 + 2 * z59.toNat = cx ∧ isPl cx := ⟨_, rfl, isPl_L hk0 (by omega)⟩
    replace hF := hF.to (rdb_e (z := c72) ec72)
    refine x_aldS C (N := 129) (i := k0 + 1) (q := z59) (t := 4) rfl (by omega) (xd_La hk0) (by omega) (by decide) dX3_toldPlants_15 (a := c72) ec72 ?_
    obtain ⟨z73, ez73, bz73⟩ := hI.rd c72 0 (x := 0) (y := 1) (rg_P hc72 0)
    replace hF := hF.to (rdb_e (z := z73) ez73)
    replace hF := hF.fc bz73
    refine x_getI C (N := 129) (i := c72) (Nat.lt_of_succ_lt hc72.1) hc72.2.1 vc_X5 wx_X5 0 (by decide) wf_X3_59 rfl dX3_toldPlants_16 (a := z73) ez73 ?_
    obtain ⟨jf76, hjf76, hF⟩ := jn_ex hF
    refine x_join (I := fun z75 : Int => (-2147483648 ≤ z75 ∧ z75 ≤ 2147483647) ∧ Imp (jf76 z75) (f_s_toldPlants k0 V J Rr)) (wsf := fun z75 : Int => XW cy ad V J Rr) (lvf := fun z75 : Int => [(2, vI z59), (1, vI z60), (0, .ref (ad k0))]) (stf := fun z75 : Int => [vI z75, vI z60]) 29 (fun z75 hI76x => ?_) (fun jn76 => ?_)
    · obtain ⟨bz75, hF⟩ := hI76x
      try dsimp only
      replace hF := hF.to (jn_s1 hjf76)
      obtain ⟨z77, hz77, bz77⟩ : ∃ z : Int, iOr z60 z75 = z ∧ (-2147483648 ≤ z ∧ z ≤ 2147483647) := ⟨_, rfl, xi_r _⟩
      replace hF := hF.to (rdb_e (z := z77) hz77)
      refine x_ior C.1 (v := z77) hz77 dX3_toldPlants_29 ?_
      refine x_istore_n C.1 (lv' := [(1, vI z77), (2, vI z59), (0, .ref (ad k0))]) dX3_toldPlants_30 (by decide) rfl ?_
      refine x_iinc C.1 (v := z59 + 1) (lv' := [(2, vI (z59 + 1)), (1, vI z77), (0, .ref (ad k0))]) (by omega) dX3_toldPlants_31 1 rfl (by decide) rfl ?_
      refine x_goto C.1 (tgt := 4) dX3_toldPlants_34 (by decide) ?_
      have hmu61 : (5 - (z59 + 1)).toNat < (5 - z59).toNat := (by omega)
      exact ih61 (z59 + 1, z77) ⟨⟨by omega, by omega⟩, ⟨by omega, by omega⟩, ⟨nf61, Nat.lt_of_lt_of_le hmu61 (Nat.le_of_lt_succ hn61), hF⟩⟩ hmu61
    · refine x_if_eq C.1 (tgt := 28) dX3_toldPlants_19 (by decide) (by omega) (fun hc78 => ?_) (fun hc78 => ?_)
      · replace hF := hF.to (if_pos hc78)
        refine x_iconst C.1 (n := 0) dX3_toldPlants_28 ?_
        exact jn76 0 ⟨⟨by decide, by decide⟩, hF⟩
      · replace hF := hF.to (if_neg hc78)
        refine x_iconst C.1 (n := 1) dX3_toldPlants_22 ?_
        refine x_iload_n C.1 dX3_toldPlants_23 0 rfl ?_
        obtain ⟨z79, hz79, bz79⟩ : ∃ z : Int, iShl 1 z59 = z ∧ (-2147483648 ≤ z ∧ z ≤ 2147483647) := ⟨_, rfl, xi_r _⟩
        replace hF := hF.to (rdb_e (z := z79) hz79)
        refine x_ishl C.1 (v := z79) hz79 dX3_toldPlants_24 ?_
        refine x_goto C.1 (tgt := 29) dX3_toldPlants_25 (by decide) ?_
        exact jn76 z79 ⟨⟨by omega, by omega⟩, hF⟩
theorem dX3_deadBits_0 : decode cX3_deadBits 0 = .ok (.iconst 0, 1) := by decide +kernel
theorem dX3_deadBits_1 : decode cX3_deadBits 1 = .ok (.istore_n 1, 1) := by decide +kernel
theorem dX3_deadBits_2 : decode cX3_deadBits 2 = .ok (.iconst 0, 1) := by decide +kernel
theorem dX3_deadBits_3 : decode cX3_deadBits 3 = .ok (.istore_n 2, 1) := by decide +kernel
theorem dX3_deadBits_4 : decode cX3_deadBits 4 = .ok (.iload_n 2, 1) := by decide +kernel
theorem dX3_deadBits_5 : decode cX3_deadBits 5 = .ok (.iconst 4, 1) := by decide +kernel
theorem dX3_deadBits_6 : decode cX3_deadBits 6 = .ok (.if_icmp .ge 31, 3) := by decide +kernel
theorem dX3_deadBits_9 : decode cX3_deadBits 9 = .ok (.iload_n 1, 1) := by decide +kernel
theorem dX3_deadBits_10 : decode cX3_deadBits 10 = .ok (.aload_n 0, 1) := by decide +kernel
theorem dX3_deadBits_11 : decode cX3_deadBits 11 = .ok (.getfield 11, 3) := by decide +kernel
theorem dX3_deadBits_14 : decode cX3_deadBits 14 = .ok (.iload_n 2, 1) := by decide +kernel
theorem dX3_deadBits_15 : decode cX3_deadBits 15 = .ok (.aaload, 1) := by decide +kernel
theorem dX3_deadBits_16 : decode cX3_deadBits 16 = .ok (.invokevirtual 64, 3) := by decide +kernel
theorem dX3_deadBits_19 : decode cX3_deadBits 19 = .ok (.ifCond .eq 9, 3) := by decide +kernel
theorem dX3_deadBits_22 : decode cX3_deadBits 22 = .ok (.iconst 1, 1) := by decide +kernel
theorem dX3_deadBits_23 : decode cX3_deadBits 23 = .ok (.iload_n 2, 1) := by decide +kernel
theorem dX3_deadBits_24 : decode cX3_deadBits 24 = .ok (.ishl, 1) := by decide +kernel
theorem dX3_deadBits_25 : decode cX3_deadBits 25 = .ok (.goto 4, 3) := by decide +kernel
theorem dX3_deadBits_28 : decode cX3_deadBits 28 = .ok (.iconst 0, 1) := by decide +kernel
theorem dX3_deadBits_29 : decode cX3_deadBits 29 = .ok (.ior, 1) := by decide +kernel
theorem dX3_deadBits_30 : decode cX3_deadBits 30 = .ok (.istore_n 1, 1) := by decide +kernel
theorem dX3_deadBits_31 : decode cX3_deadBits 31 = .ok (.iinc 2 1, 3) := by decide +kernel
theorem dX3_deadBits_34 : decode cX3_deadBits 34 = .ok (.goto (-30), 3) := by decide +kernel
theorem dX3_deadBits_37 : decode cX3_deadBits 37 = .ok (.iload_n 1, 1) := by decide +kernel
theorem dX3_deadBits_38 : decode cX3_deadBits 38 = .ok (.ireturn, 1) := by decide +kernel
set_option maxRecDepth 100000 in
def f_s_deadBits (k0 : Nat) (V : Nat → Nat → Int) (J : Nat → Nat → Int) (Rr : Nat → Nat → Nat) : (Int) → Prop :=
  lop2 (6) (fun rc61 (z59 : Int) (z60 : Int) => (if 4 ≤ z59 then rtn z60 else rdb (k0 + 3 + 2 * z59.toNat) fun c72 => calR (f_s_isDeadP c72 V J Rr) fun z73 => fct (0 ≤ z73 ∧ z73 ≤ 1) <| jnk (fun (z75 : Int) => rdb (iOr z60 z75) fun z77 => rc61 (z59 + 1) z77) fun jf76 => (if z73 = 0 then jf76 0 else rdb (iShl 1 z59) fun z79 => jf76 z79))) 0 0
set_option maxHeartbeats 8000000 in
set_option maxRecDepth 100000 in
theorem s_deadBits (l : Launch) (D : va_G) (cy : Nat → ClassId) (ad : Nat → Nat) (G : Nat → Nat → Int) (V J : Nat → Nat → Int) (Rr : Nat → Nat → Nat) (hI : XI G V) (hJ : VJ J) (hR : XR Rr) (k0 : Nat) (hk0 : isLa k0) : xMi l D (xTY cy) yX3_deadBits cX3_deadBits 3 (some .int) 1 20 0 0 [.ref (ad k0)] (XW cy ad V J Rr) (fun _ : Unit => XW cy ad V J Rr) (fun a (u : Unit) => (f_s_deadBits k0 V J Rr) a) := by
  refine xMi.mk (lv0 := [(0, .ref (ad k0))]) (by decide) rfl (Nat.le_of_ble_eq_true rfl) (fun p e s m below meth c A C hr hnm hAe => ?_)
  have C : xC2 p s m _ meth c D A s.heap 3 cX3_deadBits RX3 (xTY cy) := C
  have hF := Imp.of_eq (f_s_deadBits.eq_def k0 V J Rr)
  refine x_iconst C.1 (n := 0) dX3_deadBits_0 ?_
  refine x_istore_n C.1 (lv' := [(1, vI 0), (0, .ref (ad k0))]) dX3_deadBits_1 (by decide) rfl ?_
  refine x_iconst C.1 (n := 0) dX3_deadBits_2 ?_
  refine x_istore_n C.1 (lv' := [(2, vI 0), (1, vI 0), (0, .ref (ad k0))]) dX3_deadBits_3 (by decide) rfl ?_
  obtain ⟨bd61, hbd61, hF⟩ := lop2_ex hF
  refine x_loop (I := fun x : Int × Int => match x with | (z59, z60) => (0 ≤ z59 ∧ z59 ≤ 4) ∧ (-2147483648 ≤ z60 ∧ z60 ≤ 2147483647) ∧ (∃ nf : Nat, (5 - z59).toNat < nf ∧ Imp (lop2 nf bd61 z59 z60) (f_s_deadBits k0 V J Rr))) (μ := fun x : Int × Int => match x with | (z59, z60) => (5 - z59).toNat) (wsf := fun x : Int × Int => match x with | (z59, z60) => XW cy ad V J Rr) (lvf := fun x : Int × Int => match x with | (z59, z60) => [(2, vI z59), (1, vI z60), (0, .ref (ad k0))]) (fun x hI61x ih61 => ?_) (0, 0) ⟨⟨by decide, by decide⟩, ⟨by decide, by decide⟩, ⟨_, (by omega), hF⟩⟩ rfl rfl
  obtain ⟨z59, z60⟩ := x
  obtain ⟨bz59, bz60, nf61, hn61, hF⟩ := hI61x
  try dsimp only
  obtain ⟨nf61, rfl⟩ : ∃ mm, nf61 = mm + 1 := ⟨nf61 - 1, (Nat.succ_pred_eq_of_pos (Nat.lt_of_le_of_lt (Nat.zero_le _) hn61)).symm⟩
  replace hF := hF.to (lop2_s hbd61)
  refine x_iload_n C.1 dX3_deadBits_4 0 rfl ?_
  refine x_iconst C.1 (n := 4) dX3_deadBits_5 ?_
  refine x_icmp_ge C.1 (tgt := 37) dX3_deadBits_6 (by decide) (by omega) (by decide) (fun hc71 => ?_) (fun hc71 => ?_)
  · replace hF := hF.to (if_pos hc71)
    refine x_iload_n C.1 dX3_deadBits_37 1 rfl ?_
    exact x_iret (S := Unit) (post := (fun a (u : Unit) => (f_s_deadBits k0 V J Rr) a)) (w1 := (fun _ : Unit => XW cy ad V J Rr)) (a := z60) C hr rfl dX3_deadBits_38 (by omega) () rfl (hF _ rfl)
  · replace hF := hF.to (if_neg hc71)
    refine x_iload_n C.1 dX3_deadBits_9 1 rfl ?_
    refine x_aload_n C.1 dX3_deadBits_10 2 rfl ?_
    refine x_getA C (N := 129) (i := k0) (by omega) (xd_L hk0) vc_X3 wx_X3 0 (by decide) wf_X3_11 (a := k0 + 1) rfl dX3_deadBits_11 ?_
    refine x_iload_n C.1 dX3_deadBits_14 0 rfl ?_
    obtain ⟨c72, ec72, hc72⟩ : ∃ cx : Nat, k0 + 3 + 2 * z59.toNat = cx ∧ isPl cx := ⟨_, rfl, isPl_L hk0 (by omega)⟩
    replace hF := hF.to (rdb_e (z := c72) ec72)
    refine x_aldS C (N := 129) (i := k0 + 1) (q := z59) (t := 4) rfl (by omega) (xd_La hk0) (by omega) (by decide) dX3_deadBits_15 (a := c72) ec72 ?_
    refine x_callVi C (As := []) (rest := [vI z60]) c72 (xw_at (N := 129) (i := c72) (Nat.lt_of_succ_lt hc72.1) hc72.2.1) vc_X5 (s_isDeadP l D cy ad G V J Rr hI hJ hR c72 hc72) (l1 := []) (l2 := []) (List.append_nil _).symm (w2 := fun _ => XW cy ad V J Rr) (fun _ => List.append_nil _) rfl wm_yX5_isDead wn_X5 wl_X3_64 wi_yX5_isDead we_yX5_isDead hd_yX5_isDead rfl ⟨Nat.le_of_ble_eq_true rfl, Nat.le_of_ble_eq_true rfl⟩ (Nat.le_of_ble_eq_true rfl) ⟨Nat.le_of_ble_eq_true rfl, Nat.le_of_ble_eq_true rfl⟩ dX3_deadBits_16 (fun z73 u73 bz73 h73 => ?_)
    obtain ⟨bq73, hFc73⟩ := h73
    replace hF := calR_i hF hFc73
    replace hF := hF.fc bq73
    obtain ⟨jf76, hjf76, hF⟩ := jn_ex hF
    refine x_join (I := fun z75 : Int => (-2147483648 ≤ z75 ∧ z75 ≤ 2147483647) ∧ Imp (jf76 z75) (f_s_deadBits k0 V J Rr)) (wsf := fun z75 : Int => XW cy ad V J Rr) (lvf := fun z75 : Int => [(2, vI z59), (1, vI z60), (0, .ref (ad k0))]) (stf := fun z75 : Int => [vI z75, vI z60]) 29 (fun z75 hI76x => ?_) (fun jn76 => ?_)
    · obtain ⟨bz75, hF⟩ := hI76x
      try dsimp only
      replace hF := hF.to (jn_s1 hjf76)
      obtain ⟨z77, hz77, bz77⟩ : ∃ z : Int, iOr z60 z75 = z ∧ (-2147483648 ≤ z ∧ z ≤ 2147483647) := ⟨_, rfl, xi_r _⟩
      replace hF := hF.to (rdb_e (z := z77) hz77)
      refine x_ior C.1 (v := z77) hz77 dX3_deadBits_29 ?_
      refine x_istore_n C.1 (lv' := [(1, vI z77), (2, vI z59), (0, .ref (ad k0))]) dX3_deadBits_30 (by decide) rfl ?_
      refine x_iinc C.1 (v := z59 + 1) (lv' := [(2, vI (z59 + 1)), (1, vI z77), (0, .ref (ad k0))]) (by omega) dX3_deadBits_31 1 rfl (by decide) rfl ?_
      refine x_goto C.1 (tgt := 4) dX3_deadBits_34 (by decide) ?_
      have hmu61 : (5 - (z59 + 1)).toNat < (5 - z59).toNat := (by omega)
      exact ih61 (z59 + 1, z77) ⟨⟨by omega, by omega⟩, ⟨by omega, by omega⟩, ⟨nf61, Nat.lt_of_lt_of_le hmu61 (Nat.le_of_lt_succ hn61), hF⟩⟩ hmu61
    · refine x_if_eq C.1 (tgt := 28) dX3_deadBits_19 (by decide) (by omega) (fun hc78 => ?_) (fun hc78 => ?_)
      · replace hF := hF.to (if_pos hc78)
        refine x_iconst C.1 (n := 0) dX3_deadBits_28 ?_
        exact jn76 0 ⟨⟨by decide, by decide⟩, hF⟩
      · replace hF := hF.to (if_neg hc78)
        refine x_iconst C.1 (n := 1) dX3_deadBits_22 ?_
        refine x_iload_n C.1 dX3_deadBits_23 0 rfl ?_
        obtain ⟨z79, hz79, bz79⟩ : ∃ z : Int, iShl 1 z59 = z ∧ (-2147483648 ≤ z ∧ z ≤ 2147483647) := ⟨_, rfl, xi_r _⟩
        replace hF := hF.to (rdb_e (z := z79) hz79)
        refine x_ishl C.1 (v := z79) hz79 dX3_deadBits_24 ?_
        refine x_goto C.1 (tgt := 29) dX3_deadBits_25 (by decide) ?_
        exact jn76 z79 ⟨⟨by omega, by omega⟩, hF⟩
theorem dX3_toldPeople_0 : decode cX3_toldPeople 0 = .ok (.iconst 0, 1) := by decide +kernel
theorem dX3_toldPeople_1 : decode cX3_toldPeople 1 = .ok (.istore_n 1, 1) := by decide +kernel
theorem dX3_toldPeople_2 : decode cX3_toldPeople 2 = .ok (.iconst 0, 1) := by decide +kernel
theorem dX3_toldPeople_3 : decode cX3_toldPeople 3 = .ok (.istore_n 2, 1) := by decide +kernel
theorem dX3_toldPeople_4 : decode cX3_toldPeople 4 = .ok (.iload_n 2, 1) := by decide +kernel
theorem dX3_toldPeople_5 : decode cX3_toldPeople 5 = .ok (.bipush 8, 2) := by decide +kernel
theorem dX3_toldPeople_7 : decode cX3_toldPeople 7 = .ok (.if_icmp .ge 31, 3) := by decide +kernel
theorem dX3_toldPeople_10 : decode cX3_toldPeople 10 = .ok (.iload_n 1, 1) := by decide +kernel
theorem dX3_toldPeople_11 : decode cX3_toldPeople 11 = .ok (.aload_n 0, 1) := by decide +kernel
theorem dX3_toldPeople_12 : decode cX3_toldPeople 12 = .ok (.getfield 19, 3) := by decide +kernel
theorem dX3_toldPeople_15 : decode cX3_toldPeople 15 = .ok (.iload_n 2, 1) := by decide +kernel
theorem dX3_toldPeople_16 : decode cX3_toldPeople 16 = .ok (.aaload, 1) := by decide +kernel
theorem dX3_toldPeople_17 : decode cX3_toldPeople 17 = .ok (.getfield 42, 3) := by decide +kernel
theorem dX3_toldPeople_20 : decode cX3_toldPeople 20 = .ok (.ifCond .eq 9, 3) := by decide +kernel
theorem dX3_toldPeople_23 : decode cX3_toldPeople 23 = .ok (.iconst 1, 1) := by decide +kernel
theorem dX3_toldPeople_24 : decode cX3_toldPeople 24 = .ok (.iload_n 2, 1) := by decide +kernel
theorem dX3_toldPeople_25 : decode cX3_toldPeople 25 = .ok (.ishl, 1) := by decide +kernel
theorem dX3_toldPeople_26 : decode cX3_toldPeople 26 = .ok (.goto 4, 3) := by decide +kernel
theorem dX3_toldPeople_29 : decode cX3_toldPeople 29 = .ok (.iconst 0, 1) := by decide +kernel
theorem dX3_toldPeople_30 : decode cX3_toldPeople 30 = .ok (.ior, 1) := by decide +kernel
theorem dX3_toldPeople_31 : decode cX3_toldPeople 31 = .ok (.istore_n 1, 1) := by decide +kernel
theorem dX3_toldPeople_32 : decode cX3_toldPeople 32 = .ok (.iinc 2 1, 3) := by decide +kernel
theorem dX3_toldPeople_35 : decode cX3_toldPeople 35 = .ok (.goto (-31), 3) := by decide +kernel
theorem dX3_toldPeople_38 : decode cX3_toldPeople 38 = .ok (.iload_n 1, 1) := by decide +kernel
theorem dX3_toldPeople_39 : decode cX3_toldPeople 39 = .ok (.ireturn, 1) := by decide +kernel
set_option maxRecDepth 100000 in
def f_s_toldPeople (k0 : Nat) (V : Nat → Nat → Int) (J : Nat → Nat → Int) (Rr : Nat → Nat → Nat) : (Int) → Prop :=
  lop2 (10) (fun rc61 (z59 : Int) (z60 : Int) => (if 8 ≤ z59 then rtn z60 else rdb (k0 + 11 + 1 * z59.toNat) fun c72 => rdb (V c72 0) fun z73 => fct (0 ≤ z73 ∧ z73 ≤ 1) <| jnk (fun (z75 : Int) => rdb (iOr z60 z75) fun z77 => rc61 (z59 + 1) z77) fun jf76 => (if z73 = 0 then jf76 0 else rdb (iShl 1 z59) fun z79 => jf76 z79))) 0 0
set_option maxHeartbeats 8000000 in
set_option maxRecDepth 100000 in
theorem s_toldPeople (l : Launch) (D : va_G) (cy : Nat → ClassId) (ad : Nat → Nat) (G : Nat → Nat → Int) (V J : Nat → Nat → Int) (Rr : Nat → Nat → Nat) (hI : XI G V) (hJ : VJ J) (hR : XR Rr) (k0 : Nat) (hk0 : isLa k0) : xMi l D (xTY cy) yX3_toldPeople cX3_toldPeople 3 (some .int) 0 0 0 0 [.ref (ad k0)] (XW cy ad V J Rr) (fun _ : Unit => XW cy ad V J Rr) (fun a (u : Unit) => (f_s_toldPeople k0 V J Rr) a) := by
  refine xMi.mk (lv0 := [(0, .ref (ad k0))]) (by decide) rfl (Nat.le_of_ble_eq_true rfl) (fun p e s m below meth c A C hr hnm hAe => ?_)
  have C : xC2 p s m _ meth c D A s.heap 3 cX3_toldPeople RX3 (xTY cy) := C
  have hF := Imp.of_eq (f_s_toldPeople.eq_def k0 V J Rr)
  refine x_iconst C.1 (n := 0) dX3_toldPeople_0 ?_
  refine x_istore_n C.1 (lv' := [(1, vI 0), (0, .ref (ad k0))]) dX3_toldPeople_1 (by decide) rfl ?_
  refine x_iconst C.1 (n := 0) dX3_toldPeople_2 ?_
  refine x_istore_n C.1 (lv' := [(2, vI 0), (1, vI 0), (0, .ref (ad k0))]) dX3_toldPeople_3 (by decide) rfl ?_
  obtain ⟨bd61, hbd61, hF⟩ := lop2_ex hF
  refine x_loop (I := fun x : Int × Int => match x with | (z59, z60) => (0 ≤ z59 ∧ z59 ≤ 8) ∧ (-2147483648 ≤ z60 ∧ z60 ≤ 2147483647) ∧ (∃ nf : Nat, (9 - z59).toNat < nf ∧ Imp (lop2 nf bd61 z59 z60) (f_s_toldPeople k0 V J Rr))) (μ := fun x : Int × Int => match x with | (z59, z60) => (9 - z59).toNat) (wsf := fun x : Int × Int => match x with | (z59, z60) => XW cy ad V J Rr) (lvf := fun x : Int × Int => match x with | (z59, z60) => [(2, vI z59), (1, vI z60), (0, .ref (ad k0))]) (fun x hI61x ih61 => ?_) (0, 0) ⟨⟨by decide, by decide⟩, ⟨by decide, by decide⟩, ⟨_, (by omega), hF⟩⟩ rfl rfl
  obtain ⟨z59, z60⟩ := x
  obtain ⟨bz59, bz60, nf61, hn61, hF⟩ := hI61x
  try dsimp only
  obtain ⟨nf61, rfl⟩ : ∃ mm, nf61 = mm + 1 := ⟨nf61 - 1, (Nat.succ_pred_eq_of_pos (Nat.lt_of_le_of_lt (Nat.zero_le _) hn61)).symm⟩
  replace hF := hF.to (lop2_s hbd61)
  refine x_iload_n C.1 dX3_toldPeople_4 0 rfl ?_
  refine x_bipush C.1 (n := 8) dX3_toldPeople_5 ?_
  refine x_icmp_ge C.1 (tgt := 38) dX3_toldPeople_7 (by decide) (by omega) (by decide) (fun hc71 => ?_) (fun hc71 => ?_)
  · replace hF := hF.to (if_pos hc71)
    refine x_iload_n C.1 dX3_toldPeople_38 1 rfl ?_
    exact x_iret (S := Unit) (post := (fun a (u : Unit) => (f_s_toldPeople k0 V J Rr) a)) (w1 := (fun _ : Unit => XW cy ad V J Rr)) (a := z60) C hr rfl dX3_toldPeople_39 (by omega) () rfl (hF _ rfl)
  · replace hF := hF.to (if_neg hc71)
    refine x_iload_n C.1 dX3_toldPeople_10 1 rfl ?_
    refine x_aload_n C.1 dX3_toldPeople_11 2 rfl ?_
    refine x_getA C (N := 129) (i := k0) (by omega) (xd_L hk0) vc_X3 wx_X3 1 (by decide) wf_X3_19 (a := k0 + 2) rfl dX3_toldPeople_12 ?_
    refine x_iload_n C.1 dX3_toldPeople_15 0 rfl ?_
    obtain ⟨c72, ec72, hc72⟩ : ∃ cx : Nat, k0 + 11 + 1 * z59.toNat = cx ∧ isPe cx := ⟨_, rfl, isPe_L hk0 (by omega)⟩
    replace hF := hF.to (rdb_e (z := c72) ec72)
    refine x_aldS C (N := 129) (i := k0 + 2) (q := z59) (t := 5) rfl (by omega) (xd_Lb hk0) (by omega) (by decide) dX3_toldPeople_16 (a := c72) ec72 ?_
    obtain ⟨z73, ez73, bz73⟩ := hI.rd c72 0 (x := 0) (y := 1) (rg_E hc72 0)
    replace hF := hF.to (rdb_e (z := z73) ez73)
    replace hF := hF.fc bz73
    refine x_getI C (N := 129) (i := c72) hc72.1 hc72.2 vc_X4 wx_X4 0 (by decide) wf_X3_42 rfl dX3_toldPeople_17 (a := z73) ez73 ?_
    obtain ⟨jf76, hjf76, hF⟩ := jn_ex hF
    refine x_join (I := fun z75 : Int => (-2147483648 ≤ z75 ∧ z75 ≤ 2147483647) ∧ Imp (jf76 z75) (f_s_toldPeople k0 V J Rr)) (wsf := fun z75 : Int => XW cy ad V J Rr) (lvf := fun z75 : Int => [(2, vI z59), (1, vI z60), (0, .ref (ad k0))]) (stf := fun z75 : Int => [vI z75, vI z60]) 30 (fun z75 hI76x => ?_) (fun jn76 => ?_)
    · obtain ⟨bz75, hF⟩ := hI76x
      try dsimp only
      replace hF := hF.to (jn_s1 hjf76)
      obtain ⟨z77, hz77, bz77⟩ : ∃ z : Int, iOr z60 z75 = z ∧ (-2147483648 ≤ z ∧ z ≤ 2147483647) := ⟨_, rfl, xi_r _⟩
      replace hF := hF.to (rdb_e (z := z77) hz77)
      refine x_ior C.1 (v := z77) hz77 dX3_toldPeople_30 ?_
      refine x_istore_n C.1 (lv' := [(1, vI z77), (2, vI z59), (0, .ref (ad k0))]) dX3_toldPeople_31 (by decide) rfl ?_
      refine x_iinc C.1 (v := z59 + 1) (lv' := [(2, vI (z59 + 1)), (1, vI z77), (0, .ref (ad k0))]) (by omega) dX3_toldPeople_32 1 rfl (by decide) rfl ?_
      refine x_goto C.1 (tgt := 4) dX3_toldPeople_35 (by decide) ?_
      have hmu61 : (9 - (z59 + 1)).toNat < (9 - z59).toNat := (by omega)
      exact ih61 (z59 + 1, z77) ⟨⟨by omega, by omega⟩, ⟨by omega, by omega⟩, ⟨nf61, Nat.lt_of_lt_of_le hmu61 (Nat.le_of_lt_succ hn61), hF⟩⟩ hmu61
    · refine x_if_eq C.1 (tgt := 29) dX3_toldPeople_20 (by decide) (by omega) (fun hc78 => ?_) (fun hc78 => ?_)
      · replace hF := hF.to (if_pos hc78)
        refine x_iconst C.1 (n := 0) dX3_toldPeople_29 ?_
        exact jn76 0 ⟨⟨by decide, by decide⟩, hF⟩
      · replace hF := hF.to (if_neg hc78)
        refine x_iconst C.1 (n := 1) dX3_toldPeople_23 ?_
        refine x_iload_n C.1 dX3_toldPeople_24 0 rfl ?_
        obtain ⟨z79, hz79, bz79⟩ : ∃ z : Int, iShl 1 z59 = z ∧ (-2147483648 ≤ z ∧ z ≤ 2147483647) := ⟨_, rfl, xi_r _⟩
        replace hF := hF.to (rdb_e (z := z79) hz79)
        refine x_ishl C.1 (v := z79) hz79 dX3_toldPeople_25 ?_
        refine x_goto C.1 (tgt := 30) dX3_toldPeople_26 (by decide) ?_
        exact jn76 z79 ⟨⟨by omega, by omega⟩, hF⟩
theorem dX3_fillLowest_0 : decode cX3_fillLowest 0 = .ok (.iconst 0, 1) := by decide +kernel
theorem dX3_fillLowest_1 : decode cX3_fillLowest 1 = .ok (.istore_n 3, 1) := by decide +kernel
theorem dX3_fillLowest_2 : decode cX3_fillLowest 2 = .ok (.iconst 0, 1) := by decide +kernel
theorem dX3_fillLowest_3 : decode cX3_fillLowest 3 = .ok (.istore 4, 2) := by decide +kernel
theorem dX3_fillLowest_5 : decode cX3_fillLowest 5 = .ok (.iload 4, 2) := by decide +kernel
theorem dX3_fillLowest_7 : decode cX3_fillLowest 7 = .ok (.bipush 8, 2) := by decide +kernel
theorem dX3_fillLowest_9 : decode cX3_fillLowest 9 = .ok (.if_icmp .ge 41, 3) := by decide +kernel
theorem dX3_fillLowest_12 : decode cX3_fillLowest 12 = .ok (.aload_n 0, 1) := by decide +kernel
theorem dX3_fillLowest_13 : decode cX3_fillLowest 13 = .ok (.getfield 19, 3) := by decide +kernel
theorem dX3_fillLowest_16 : decode cX3_fillLowest 16 = .ok (.iload 4, 2) := by decide +kernel
theorem dX3_fillLowest_18 : decode cX3_fillLowest 18 = .ok (.aaload, 1) := by decide +kernel
theorem dX3_fillLowest_19 : decode cX3_fillLowest 19 = .ok (.getfield 42, 3) := by decide +kernel
theorem dX3_fillLowest_22 : decode cX3_fillLowest 22 = .ok (.ifCond .eq 22, 3) := by decide +kernel
theorem dX3_fillLowest_25 : decode cX3_fillLowest 25 = .ok (.iload_n 3, 1) := by decide +kernel
theorem dX3_fillLowest_26 : decode cX3_fillLowest 26 = .ok (.iload_n 1, 1) := by decide +kernel
theorem dX3_fillLowest_27 : decode cX3_fillLowest 27 = .ok (.if_icmp .ge 17, 3) := by decide +kernel
theorem dX3_fillLowest_30 : decode cX3_fillLowest 30 = .ok (.iload_n 3, 1) := by decide +kernel
theorem dX3_fillLowest_31 : decode cX3_fillLowest 31 = .ok (.aload_n 2, 1) := by decide +kernel
theorem dX3_fillLowest_32 : decode cX3_fillLowest 32 = .ok (.arraylength, 1) := by decide +kernel
theorem dX3_fillLowest_33 : decode cX3_fillLowest 33 = .ok (.if_icmp .ge 11, 3) := by decide +kernel
theorem dX3_fillLowest_36 : decode cX3_fillLowest 36 = .ok (.aload_n 2, 1) := by decide +kernel
theorem dX3_fillLowest_37 : decode cX3_fillLowest 37 = .ok (.iload_n 3, 1) := by decide +kernel
theorem dX3_fillLowest_38 : decode cX3_fillLowest 38 = .ok (.iload 4, 2) := by decide +kernel
theorem dX3_fillLowest_40 : decode cX3_fillLowest 40 = .ok (.iastore, 1) := by decide +kernel
theorem dX3_fillLowest_41 : decode cX3_fillLowest 41 = .ok (.iinc 3 1, 3) := by decide +kernel
theorem dX3_fillLowest_44 : decode cX3_fillLowest 44 = .ok (.iinc 4 1, 3) := by decide +kernel
theorem dX3_fillLowest_47 : decode cX3_fillLowest 47 = .ok (.goto (-42), 3) := by decide +kernel
theorem dX3_fillLowest_50 : decode cX3_fillLowest 50 = .ok (.return_, 1) := by decide +kernel
set_option maxRecDepth 100000 in
def f_s_fillLowest (k0 : Nat) (x1 : Int) (w2 : Nat) (V : Nat → Nat → Int) (J : Nat → Nat → Int) (Rr : Nat → Nat → Nat) : (Nat → Nat → Int) → Prop :=
  lop3 (10) (fun rc75 (z73 : Int) (z74 : Int) (V75 : Nat → Nat → Int) => (if 8 ≤ z73 then rtn V75 else rdb (k0 + 11 + 1 * z73.toNat) fun c89 => rdb (V75 c89 0) fun z90 => fct (0 ≤ z90 ∧ z90 ≤ 1) <| jnk (fun (z94 : Int) (V95 : Nat → Nat → Int) => rc75 (z73 + 1) z94 V95) fun jf95 => (if z90 = 0 then jf95 z74 V75 else (if x1 ≤ z74 then jf95 z74 V75 else (if 3 ≤ z74 then jf95 z74 V75 else rdb (up2 V75 w2 z74.toNat z73) fun V99 => jf95 (z74 + 1) V99))))) 0 0 V
set_option maxHeartbeats 8000000 in
set_option maxRecDepth 100000 in
theorem s_fillLowest (l : Launch) (D : va_G) (cy : Nat → ClassId) (ad : Nat → Nat) (G : Nat → Nat → Int) (V J : Nat → Nat → Int) (Rr : Nat → Nat → Nat) (hI : XI G V) (hJ : VJ J) (hR : XR Rr) (k0 : Nat) (hk0 : isLa k0) (x1 : Int) (bx1 : -2147483648 ≤ x1 ∧ x1 ≤ 2147483647) (w2 : Nat) (hw2 : isWho w2) : xMv l D (xTY cy) yX3_fillLowest cX3_fillLowest 5 none 0 0 0 0 [.ref (ad k0), vI x1, .ref (ad w2)] (XW cy ad V J Rr) (fun u : Nat → Nat → Int => XW cy ad u J Rr) (fun u : Nat → Nat → Int => XI G u ∧ FB (fun i k : Nat => (w2 ≤ i ∧ i ≤ w2)) V u ∧ (f_s_fillLowest k0 x1 w2 V J Rr) u) := by
  refine xMv.mk (lv0 := [(0, .ref (ad k0)), (1, vI x1), (2, .ref (ad w2))]) (by decide) rfl (Nat.le_of_ble_eq_true rfl) (fun p e s m below meth c A C hr hnm hAe => ?_)
  have C : xC2 p s m _ meth c D A s.heap 5 cX3_fillLowest RX3 (xTY cy) := C
  have hB : FB (fun i k : Nat => (w2 ≤ i ∧ i ≤ w2)) V V := FB.rf _ _
  have hF := Imp.of_eq (f_s_fillLowest.eq_def k0 x1 w2 V J Rr)
  refine x_iconst C.1 (n := 0) dX3_fillLowest_0 ?_
  refine x_istore_n C.1 (lv' := [(3, vI 0), (0, .ref (ad k0)), (1, vI x1), (2, .ref (ad w2))]) dX3_fillLowest_1 (by decide) rfl ?_
  refine x_iconst C.1 (n := 0) dX3_fillLowest_2 ?_
  refine x_istore C.1 (lv' := [(4, vI 0), (3, vI 0), (0, .ref (ad k0)), (1, vI x1), (2, .ref (ad w2))]) dX3_fillLowest_3 (by decide) rfl ?_
  obtain ⟨bd75, hbd75, hF⟩ := lop3_ex hF
  refine x_loop (I := fun x : Int × Int × (Nat → Nat → Int) => match x with | (z73, z74, V75) => (0 ≤ z73 ∧ z73 ≤ 8) ∧ (0 ≤ z74 ∧ z74 ≤ 3) ∧ XI G V75 ∧ FB (fun i k : Nat => (w2 ≤ i ∧ i ≤ w2)) V V75 ∧ (∃ nf : Nat, (9 - z73).toNat < nf ∧ Imp (lop3 nf bd75 z73 z74 V75) (f_s_fillLowest k0 x1 w2 V J Rr))) (μ := fun x : Int × Int × (Nat → Nat → Int) => match x with | (z73, z74, V75) => (9 - z73).toNat) (wsf := fun x : Int × Int × (Nat → Nat → Int) => match x with | (z73, z74, V75) => XW cy ad V75 J Rr) (lvf := fun x : Int × Int × (Nat → Nat → Int) => match x with | (z73, z74, V75) => [(4, vI z73), (3, vI z74), (0, .ref (ad k0)), (1, vI x1), (2, .ref (ad w2))]) (fun x hI75x ih75 => ?_) (0, 0, V) ⟨⟨by decide, by decide⟩, ⟨by decide, by decide⟩, hI, hB, ⟨_, (by omega), hF⟩⟩ rfl rfl
  obtain ⟨z73, z74, V75⟩ := x
  obtain ⟨bz73, bz74, hI75, hB75, nf75, hn75, hF⟩ := hI75x
  try dsimp only
  obtain ⟨nf75, rfl⟩ : ∃ mm, nf75 = mm + 1 := ⟨nf75 - 1, (Nat.succ_pred_eq_of_pos (Nat.lt_of_le_of_lt (Nat.zero_le _) hn75)).symm⟩
  replace hF := hF.to (lop3_s hbd75)
  refine x_iload C.1 dX3_fillLowest_5 0 rfl ?_
  refine x_bipush C.1 (n := 8) dX3_fillLowest_7 ?_
  refine x_icmp_ge C.1 (tgt := 50) dX3_fillLowest_9 (by decide) (by omega) (by decide) (fun hc88 => ?_) (fun hc88 => ?_)
  · replace hF := hF.to (if_pos hc88)
    exact x_vret (S := (Nat → Nat → Int)) (post := (fun u : Nat → Nat → Int => XI G u ∧ FB (fun i k : Nat => (w2 ≤ i ∧ i ≤ w2)) V u ∧ (f_s_fillLowest k0 x1 w2 V J Rr) u)) (w1 := (fun u : Nat → Nat → Int => XW cy ad u J Rr)) C hr rfl dX3_fillLowest_50 V75 rfl ⟨hI75, hB75, hF _ rfl⟩
  · replace hF := hF.to (if_neg hc88)
    refine x_aload_n C.1 dX3_fillLowest_12 2 rfl ?_
    refine x_getA C (N := 129) (i := k0) (by omega) (xd_L hk0) vc_X3 wx_X3 1 (by decide) wf_X3_19 (a := k0 + 2) rfl dX3_fillLowest_13 ?_
    refine x_iload C.1 dX3_fillLowest_16 0 rfl ?_
    obtain ⟨c89, ec89, hc89⟩ : ∃ cx : Nat, k0 + 11 + 1 * z73.toNat = cx ∧ isPe cx := ⟨_, rfl, isPe_L hk0 (by omega)⟩
    replace hF := hF.to (rdb_e (z := c89) ec89)
    refine x_aldS C (N := 129) (i := k0 + 2) (q := z73) (t := 5) rfl (by omega) (xd_Lb hk0) (by omega) (by decide) dX3_fillLowest_18 (a := c89) ec89 ?_
    obtain ⟨z90, ez90, bz90⟩ := hI75.rd c89 0 (x := 0) (y := 1) (rg_E hc89 0)
    replace hF := hF.to (rdb_e (z := z90) ez90)
    replace hF := hF.fc bz90
    refine x_getI C (N := 129) (i := c89) hc89.1 hc89.2 vc_X4 wx_X4 0 (by decide) wf_X3_42 rfl dX3_fillLowest_19 (a := z90) ez90 ?_
    obtain ⟨jf95, hjf95, hF⟩ := jn_ex hF
    refine x_join (I := fun x : Int × (Nat → Nat → Int) => match x with | (z94, V95) => (0 ≤ z94 ∧ z94 ≤ 3) ∧ XI G V95 ∧ FB (fun i k : Nat => (w2 ≤ i ∧ i ≤ w2)) V V95 ∧ Imp (jf95 z94 V95) (f_s_fillLowest k0 x1 w2 V J Rr)) (wsf := fun x : Int × (Nat → Nat → Int) => match x with | (z94, V95) => XW cy ad V95 J Rr) (lvf := fun x : Int × (Nat → Nat → Int) => match x with | (z94, V95) => [(4, vI z73), (3, vI z94), (0, .ref (ad k0)), (1, vI x1), (2, .ref (ad w2))]) (stf := fun x : Int × (Nat → Nat → Int) => match x with | (z94, V95) => []) 44 (fun x hI95x => ?_) (fun jn95 => ?_)
    · obtain ⟨z94, V95⟩ := x
      obtain ⟨bz94, hI95, hB95, hF⟩ := hI95x
      try dsimp only
      replace hF := hF.to (jn_s2 hjf95)
      refine x_iinc C.1 (v := z73 + 1) (lv' := [(4, vI (z73 + 1)), (3, vI z94), (0, .ref (ad k0)), (1, vI x1), (2, .ref (ad w2))]) (by omega) dX3_fillLowest_44 0 rfl (by decide) rfl ?_
      refine x_goto C.1 (tgt := 5) dX3_fillLowest_47 (by decide) ?_
      have hmu75 : (9 - (z73 + 1)).toNat < (9 - z73).toNat := (by omega)
      exact ih75 (z73 + 1, z94, V95) ⟨⟨by omega, by omega⟩, ⟨by omega, by omega⟩, hI95, hB95, ⟨nf75, Nat.lt_of_lt_of_le hmu75 (Nat.le_of_lt_succ hn75), hF⟩⟩ hmu75
    · refine x_if_eq C.1 (tgt := 44) dX3_fillLowest_22 (by decide) (by omega) (fun hc96 => ?_) (fun hc96 => ?_)
      · replace hF := hF.to (if_pos hc96)
        exact jn95 (z74, V75) ⟨⟨by omega, by omega⟩, hI75, hB75, hF⟩
      · replace hF := hF.to (if_neg hc96)
        refine x_iload_n C.1 dX3_fillLowest_25 1 rfl ?_
        refine x_iload_n C.1 dX3_fillLowest_26 3 rfl ?_
        refine x_icmp_ge C.1 (tgt := 44) dX3_fillLowest_27 (by decide) (by omega) (by omega) (fun hc97 => ?_) (fun hc97 => ?_)
        · replace hF := hF.to (if_pos hc97)
          exact jn95 (z74, V75) ⟨⟨by omega, by omega⟩, hI75, hB75, hF⟩
        · replace hF := hF.to (if_neg hc97)
          refine x_iload_n C.1 dX3_fillLowest_30 1 rfl ?_
          refine x_aload_n C.1 dX3_fillLowest_31 4 rfl ?_
          refine x_alenI C (N := 129) (i := w2) (t := 0) rfl (by omega) (xd_Who hw2) dX3_fillLowest_32 ?_
          refine x_icmp_ge C.1 (tgt := 44) dX3_fillLowest_33 (by decide) (by omega) (by decide) (fun hc98 => ?_) (fun hc98 => ?_)
          · replace hF := hF.to (if_pos hc98)
            exact jn95 (z74, V75) ⟨⟨by omega, by omega⟩, hI75, hB75, hF⟩
          · replace hF := hF.to (if_neg hc98)
            refine x_aload_n C.1 dX3_fillLowest_36 4 rfl ?_
            refine x_iload_n C.1 dX3_fillLowest_37 1 rfl ?_
            refine x_iload C.1 dX3_fillLowest_38 0 rfl ?_
            refine x_iast C (N := 129) (i := w2) (q := z74) (a := z73) (by omega) (xd_Who hw2) (by omega) (by decide) dX3_fillLowest_40 ?_
            refine x_gV ?_
            intro V99 hV99
            have hI99 : XI G V99 := hI75.up hV99 (rg_Who hw2 _) (by omega) (pr_Who hw2 _)
            have hB99 := hB75.up hV99 (⟨Nat.le_refl _, by omega⟩)
            replace hF := hF.to (rdb_e (z := V99) hV99.symm)
            refine x_iinc C.1 (v := z74 + 1) (lv' := [(3, vI (z74 + 1)), (4, vI z73), (0, .ref (ad k0)), (1, vI x1), (2, .ref (ad w2))]) (by omega) dX3_fillLowest_41 1 rfl (by decide) rfl ?_
            refine x_lv [(4, vI z73), (3, vI (z74 + 1)), (0, .ref (ad k0)), (1, vI x1), (2, .ref (ad w2))] [1, 0, 2, 3, 4] rfl ?_
            exact jn95 (z74 + 1, V99) ⟨⟨by omega, by omega⟩, hI99, hB99, hF⟩
theorem dX3_draw_0 : decode cX3_draw 0 = .ok (.aload_n 0, 1) := by decide +kernel
theorem dX3_draw_1 : decode cX3_draw 1 = .ok (.sipush 25173, 3) := by decide +kernel
theorem dX3_draw_4 : decode cX3_draw 4 = .ok (.aload_n 0, 1) := by decide +kernel
theorem dX3_draw_5 : decode cX3_draw 5 = .ok (.getfield 23, 3) := by decide +kernel
theorem dX3_draw_8 : decode cX3_draw 8 = .ok (.imul, 1) := by decide +kernel
theorem dX3_draw_9 : decode cX3_draw 9 = .ok (.sipush 13849, 3) := by decide +kernel
theorem dX3_draw_12 : decode cX3_draw 12 = .ok (.iadd, 1) := by decide +kernel
theorem dX3_draw_13 : decode cX3_draw 13 = .ok (.ldc 68, 2) := by decide +kernel
theorem dX3_draw_15 : decode cX3_draw 15 = .ok (.iand, 1) := by decide +kernel
theorem dX3_draw_16 : decode cX3_draw 16 = .ok (.putfield 23, 3) := by decide +kernel
theorem dX3_draw_19 : decode cX3_draw 19 = .ok (.aload_n 0, 1) := by decide +kernel
theorem dX3_draw_20 : decode cX3_draw 20 = .ok (.getfield 23, 3) := by decide +kernel
theorem dX3_draw_23 : decode cX3_draw 23 = .ok (.bipush 10, 2) := by decide +kernel
theorem dX3_draw_25 : decode cX3_draw 25 = .ok (.irem, 1) := by decide +kernel
theorem dX3_draw_26 : decode cX3_draw 26 = .ok (.ireturn, 1) := by decide +kernel
set_option maxRecDepth 100000 in
def f_s_draw (k0 : Nat) (V : Nat → Nat → Int) (J : Nat → Nat → Int) (Rr : Nat → Nat → Nat) : (Int × (Nat → Nat → Int)) → Prop :=
  rdb (V k0 4) fun z1 => rdb (wr (25173 * z1)) fun z2 => rdb (wr (z2 + 13849)) fun z3 => rdb (iAnd z3 65535) fun z4 => fct (0 ≤ z4 ∧ z4 ≤ 65535) <| rdb (up2 V k0 4 z4) fun V5 => rdb (iRem z4 10) fun z6 => fct (0 ≤ z6 ∧ z6 ≤ 9) <| rtn (z6, V5)
set_option maxHeartbeats 8000000 in
set_option maxRecDepth 100000 in
theorem s_draw (l : Launch) (D : va_G) (cy : Nat → ClassId) (ad : Nat → Nat) (G : Nat → Nat → Int) (V J : Nat → Nat → Int) (Rr : Nat → Nat → Nat) (hI : XI G V) (hJ : VJ J) (hR : XR Rr) (k0 : Nat) (hk0 : isLa k0) : xMi l D (xTY cy) yX3_draw cX3_draw 1 (some .int) 0 0 0 0 [.ref (ad k0)] (XW cy ad V J Rr) (fun u : Nat → Nat → Int => XW cy ad u J Rr) (fun a (u : Nat → Nat → Int) => XI G u ∧ FB (fun i k : Nat => (k0 ≤ i ∧ i ≤ k0 + 18)) V u ∧ (f_s_draw k0 V J Rr) (a, u)) := by
  refine xMi.mk (lv0 := [(0, .ref (ad k0))]) (by decide) rfl (Nat.le_of_ble_eq_true rfl) (fun p e s m below meth c A C hr hnm hAe => ?_)
  have C : xC2 p s m _ meth c D A s.heap 1 cX3_draw RX3 (xTY cy) := C
  have hB : FB (fun i k : Nat => (k0 ≤ i ∧ i ≤ k0 + 18)) V V := FB.rf _ _
  have hF := Imp.of_eq (f_s_draw.eq_def k0 V J Rr)
  refine x_aload_n C.1 dX3_draw_0 0 rfl ?_
  refine x_sipush C.1 (n := 25173) dX3_draw_1 ?_
  refine x_aload_n C.1 dX3_draw_4 0 rfl ?_
  obtain ⟨z1, ez1, bz1⟩ := hI.rd k0 4 (x := -2147483648) (y := 2147483647) (rg_L hk0 _)
  replace hF := hF.to (rdb_e (z := z1) ez1)
  refine x_getI C (N := 129) (i := k0) (by omega) (xd_L hk0) vc_X3 wx_X3 4 (by decide) wf_X3_23 rfl dX3_draw_5 (a := z1) ez1 ?_
  refine x_imul C.1 (v := 25173 * z1) (by omega) dX3_draw_8 ?_
  refine x_wrapg ?_
  intro z2 bz2 ew2
  replace hF := hF.to (rdb_e (z := z2) ew2.symm)
  refine x_sipush C.1 (n := 13849) dX3_draw_9 ?_
  refine x_iadd C.1 (v := z2 + 13849) (by omega) dX3_draw_12 ?_
  refine x_wrapg ?_
  intro z3 bz3 ew3
  replace hF := hF.to (rdb_e (z := z3) ew3.symm)
  refine x_ldc C.1 (n := 65535) wq_X3_68 dX3_draw_13 ?_
  obtain ⟨z4, hz4, bz4⟩ : ∃ z : Int, iAnd z3 65535 = z ∧ (0 ≤ z ∧ z ≤ 65535) := ⟨_, rfl, iAnd_leB _ (by decide)⟩
  replace hF := hF.to (rdb_e (z := z4) hz4)
  replace hF := hF.fc bz4
  refine x_iand C.1 (v := z4) hz4 dX3_draw_15 ?_
  refine x_putI C (N := 129) (i := k0) (by omega) (xd_L hk0) vc_X3 wx_X3 4 (by decide) wf_X3_23 tyX3 tyX3_ok nmX3 rfl (tyX3_ok 4 (by decide)) rfl dX3_draw_16 rfl rfl ?_
  refine x_gV ?_
  intro V5 hV5
  have hI5 : XI G V5 := hI.up hV5 (rg_L hk0 _) (by omega) (pr_L hk0 _)
  have hB5 := hB.up hV5 (⟨Nat.le_refl _, by omega⟩)
  replace hF := hF.to (rdb_e (z := V5) hV5.symm)
  refine x_aload_n C.1 dX3_draw_19 0 rfl ?_
  refine x_getI C (N := 129) (i := k0) (by omega) (xd_L hk0) vc_X3 wx_X3 4 (by decide) wf_X3_23 rfl dX3_draw_20 (a := z4) ((congrFun (congrFun hV5 k0) 4).trans (up2_s _ _ _ _)) ?_
  refine x_bipush C.1 (n := 10) dX3_draw_23 ?_
  obtain ⟨z6, hz6, bz6⟩ : ∃ z : Int, iRem z4 10 = z ∧ (0 ≤ z ∧ z ≤ 9) := ⟨_, rfl, iRem_n (by omega) (by omega)⟩
  replace hF := hF.to (rdb_e (z := z6) hz6)
  replace hF := hF.fc bz6
  refine x_irem C.1 (v := z6) hz6 dX3_draw_25 (by decide) (by decide) ?_
  exact x_iret (S := (Nat → Nat → Int)) (post := (fun a (u : Nat → Nat → Int) => XI G u ∧ FB (fun i k : Nat => (k0 ≤ i ∧ i ≤ k0 + 18)) V u ∧ (f_s_draw k0 V J Rr) (a, u))) (w1 := (fun u : Nat → Nat → Int => XW cy ad u J Rr)) (a := z6) C hr rfl dX3_draw_26 (by omega) V5 rfl ⟨hI5, hB5, hF _ rfl⟩
theorem dX3_tellPerson_0 : decode cX3_tellPerson 0 = .ok (.aload_n 0, 1) := by decide +kernel
theorem dX3_tellPerson_1 : decode cX3_tellPerson 1 = .ok (.getfield 19, 3) := by decide +kernel
theorem dX3_tellPerson_4 : decode cX3_tellPerson 4 = .ok (.iload_n 1, 1) := by decide +kernel
theorem dX3_tellPerson_5 : decode cX3_tellPerson 5 = .ok (.aaload, 1) := by decide +kernel
theorem dX3_tellPerson_6 : decode cX3_tellPerson 6 = .ok (.astore 4, 2) := by decide +kernel
theorem dX3_tellPerson_8 : decode cX3_tellPerson 8 = .ok (.aload_n 0, 1) := by decide +kernel
theorem dX3_tellPerson_9 : decode cX3_tellPerson 9 = .ok (.dup, 1) := by decide +kernel
theorem dX3_tellPerson_10 : decode cX3_tellPerson 10 = .ok (.getfield 36, 3) := by decide +kernel
theorem dX3_tellPerson_13 : decode cX3_tellPerson 13 = .ok (.aload 4, 2) := by decide +kernel
theorem dX3_tellPerson_15 : decode cX3_tellPerson 15 = .ok (.getfield 42, 3) := by decide +kernel
theorem dX3_tellPerson_18 : decode cX3_tellPerson 18 = .ok (.ifCond .eq 7, 3) := by decide +kernel
theorem dX3_tellPerson_21 : decode cX3_tellPerson 21 = .ok (.iconst 0, 1) := by decide +kernel
theorem dX3_tellPerson_22 : decode cX3_tellPerson 22 = .ok (.goto 4, 3) := by decide +kernel
theorem dX3_tellPerson_25 : decode cX3_tellPerson 25 = .ok (.iconst 1, 1) := by decide +kernel
theorem dX3_tellPerson_26 : decode cX3_tellPerson 26 = .ok (.iadd, 1) := by decide +kernel
theorem dX3_tellPerson_27 : decode cX3_tellPerson 27 = .ok (.putfield 36, 3) := by decide +kernel
theorem dX3_tellPerson_30 : decode cX3_tellPerson 30 = .ok (.aload 4, 2) := by decide +kernel
theorem dX3_tellPerson_32 : decode cX3_tellPerson 32 = .ok (.iconst 1, 1) := by decide +kernel
theorem dX3_tellPerson_33 : decode cX3_tellPerson 33 = .ok (.putfield 42, 3) := by decide +kernel
theorem dX3_tellPerson_36 : decode cX3_tellPerson 36 = .ok (.aload 4, 2) := by decide +kernel
theorem dX3_tellPerson_38 : decode cX3_tellPerson 38 = .ok (.iload_n 2, 1) := by decide +kernel
theorem dX3_tellPerson_39 : decode cX3_tellPerson 39 = .ok (.putfield 46, 3) := by decide +kernel
theorem dX3_tellPerson_42 : decode cX3_tellPerson 42 = .ok (.aload 4, 2) := by decide +kernel
theorem dX3_tellPerson_44 : decode cX3_tellPerson 44 = .ok (.iload_n 3, 1) := by decide +kernel
theorem dX3_tellPerson_45 : decode cX3_tellPerson 45 = .ok (.putfield 49, 3) := by decide +kernel
theorem dX3_tellPerson_48 : decode cX3_tellPerson 48 = .ok (.aload 4, 2) := by decide +kernel
theorem dX3_tellPerson_50 : decode cX3_tellPerson 50 = .ok (.iconst 0, 1) := by decide +kernel
theorem dX3_tellPerson_51 : decode cX3_tellPerson 51 = .ok (.putfield 52, 3) := by decide +kernel
theorem dX3_tellPerson_54 : decode cX3_tellPerson 54 = .ok (.return_, 1) := by decide +kernel
set_option maxRecDepth 100000 in
def f_s_tellPerson (k0 : Nat) (x1 : Int) (x2 : Int) (x3 : Int) (V : Nat → Nat → Int) (J : Nat → Nat → Int) (Rr : Nat → Nat → Nat) : (Nat → Nat → Int) → Prop :=
  rdb (k0 + 11 + 1 * x1.toNat) fun c1 => rdb (V k0 2) fun z2 => rdb (V c1 0) fun z3 => fct (0 ≤ z3 ∧ z3 ≤ 1) <| jnk (fun (z4 : Int) => rdb (wr (z2 + z4)) fun z6 => rdb (up2 V k0 2 z6) fun V7 => rdb (up2 V7 c1 0 1) fun V8 => rdb (up2 V8 c1 1 x2) fun V9 => rdb (up2 V9 c1 2 x3) fun V10 => rdb (up2 V10 c1 3 0) fun V11 => rtn V11) fun jf5 => (if z3 = 0 then jf5 1 else jf5 0)
set_option maxHeartbeats 8000000 in
set_option maxRecDepth 100000 in
theorem s_tellPerson (l : Launch) (D : va_G) (cy : Nat → ClassId) (ad : Nat → Nat) (G : Nat → Nat → Int) (V J : Nat → Nat → Int) (Rr : Nat → Nat → Nat) (hI : XI G V) (hJ : VJ J) (hR : XR Rr) (k0 : Nat) (hk0 : isLa k0) (x1 : Int) (bx1 : 0 ≤ x1 ∧ x1 ≤ 7) (x2 : Int) (bx2 : -2147483648 ≤ x2 ∧ x2 ≤ 2147483647) (x3 : Int) (bx3 : 0 ≤ x3 ∧ x3 ≤ 3) : xMv l D (xTY cy) yX3_tellPerson cX3_tellPerson 5 none 0 0 0 0 [.ref (ad k0), vI x1, vI x2, vI x3] (XW cy ad V J Rr) (fun u : Nat → Nat → Int => XW cy ad u J Rr) (fun u : Nat → Nat → Int => XI G u ∧ FB (fun i k : Nat => (k0 ≤ i ∧ i ≤ k0 + 18)) V u ∧ (f_s_tellPerson k0 x1 x2 x3 V J Rr) u) := by
  refine xMv.mk (lv0 := [(0, .ref (ad k0)), (1, vI x1), (2, vI x2), (3, vI x3)]) (by decide) rfl (Nat.le_of_ble_eq_true rfl) (fun p e s m below meth c A C hr hnm hAe => ?_)
  have C : xC2 p s m _ meth c D A s.heap 5 cX3_tellPerson RX3 (xTY cy) := C
  have hB : FB (fun i k : Nat => (k0 ≤ i ∧ i ≤ k0 + 18)) V V := FB.rf _ _
  have hF := Imp.of_eq (f_s_tellPerson.eq_def k0 x1 x2 x3 V J Rr)
  refine x_aload_n C.1 dX3_tellPerson_0 0 rfl ?_
  refine x_getA C (N := 129) (i := k0) (by omega) (xd_L hk0) vc_X3 wx_X3 1 (by decide) wf_X3_19 (a := k0 + 2) rfl dX3_tellPerson_1 ?_
  refine x_iload_n C.1 dX3_tellPerson_4 1 rfl ?_
  obtain ⟨c1, ec1, hc1⟩ : ∃ cx : Nat, k0 + 11 + 1 * x1.toNat = cx ∧ isPe cx := ⟨_, rfl, isPe_L hk0 (by omega)⟩
  replace hF := hF.to (rdb_e (z := c1) ec1)
  refine x_aldS C (N := 129) (i := k0 + 2) (q := x1) (t := 5) rfl (by omega) (xd_Lb hk0) (by omega) (by decide) dX3_tellPerson_5 (a := c1) ec1 ?_
  refine x_astore C.1 (lv' := [(4, .ref (ad c1)), (0, .ref (ad k0)), (1, vI x1), (2, vI x2), (3, vI x3)]) dX3_tellPerson_6 (by decide) rfl ?_
  refine x_aload_n C.1 dX3_tellPerson_8 1 rfl ?_
  refine x_dup C.1 dX3_tellPerson_9 rfl ?_
  obtain ⟨z2, ez2, bz2⟩ := hI.rd k0 2 (x := -2147483648) (y := 2147483647) (rg_L hk0 _)
  replace hF := hF.to (rdb_e (z := z2) ez2)
  refine x_getI C (N := 129) (i := k0) (by omega) (xd_L hk0) vc_X3 wx_X3 2 (by decide) wf_X3_36 rfl dX3_tellPerson_10 (a := z2) ez2 ?_
  refine x_aload C.1 dX3_tellPerson_13 0 rfl ?_
  obtain ⟨z3, ez3, bz3⟩ := hI.rd c1 0 (x := 0) (y := 1) (rg_E hc1 0)
  replace hF := hF.to (rdb_e (z := z3) ez3)
  replace hF := hF.fc bz3
  refine x_getI C (N := 129) (i := c1) hc1.1 hc1.2 vc_X4 wx_X4 0 (by decide) wf_X3_42 rfl dX3_tellPerson_15 (a := z3) ez3 ?_
  obtain ⟨jf5, hjf5, hF⟩ := jn_ex hF
  refine x_join (I := fun z4 : Int => (0 ≤ z4 ∧ z4 ≤ 1) ∧ Imp (jf5 z4) (f_s_tellPerson k0 x1 x2 x3 V J Rr)) (wsf := fun z4 : Int => XW cy ad V J Rr) (lvf := fun z4 : Int => [(4, .ref (ad c1)), (0, .ref (ad k0)), (1, vI x1), (2, vI x2), (3, vI x3)]) (stf := fun z4 : Int => [vI z4, vI z2, .ref (ad k0)]) 26 (fun z4 hI5x => ?_) (fun jn5 => ?_)
  · obtain ⟨bz4, hF⟩ := hI5x
    try dsimp only
    replace hF := hF.to (jn_s1 hjf5)
    refine x_iadd C.1 (v := z2 + z4) (by omega) dX3_tellPerson_26 ?_
    refine x_wrapg ?_
    intro z6 bz6 ew6
    replace hF := hF.to (rdb_e (z := z6) ew6.symm)
    refine x_putI C (N := 129) (i := k0) (by omega) (xd_L hk0) vc_X3 wx_X3 2 (by decide) wf_X3_36 tyX3 tyX3_ok nmX3 rfl (tyX3_ok 2 (by decide)) rfl dX3_tellPerson_27 rfl rfl ?_
    refine x_gV ?_
    intro V7 hV7
    have hI7 : XI G V7 := hI.up hV7 (rg_L hk0 _) (by omega) (pr_L hk0 _)
    have hB7 := hB.up hV7 (⟨Nat.le_refl _, by omega⟩)
    replace hF := hF.to (rdb_e (z := V7) hV7.symm)
    refine x_aload C.1 dX3_tellPerson_30 0 rfl ?_
    refine x_iconst C.1 (n := 1) dX3_tellPerson_32 ?_
    refine x_putI C (N := 129) (i := c1) hc1.1 hc1.2 vc_X4 wx_X4 0 (by decide) wf_X3_42 tyX4 tyX4_ok nmX4 rfl (tyX4_ok 0 (by decide)) rfl dX3_tellPerson_33 (by decide) (by decide) ?_
    refine x_gV ?_
    intro V8 hV8
    have hI8 : XI G V8 := hI7.up hV8 (rg_E hc1 0) (by decide) (pr_E hc1 _)
    have hB8 := hB7.up hV8 (⟨by omega, by omega⟩)
    replace hF := hF.to (rdb_e (z := V8) hV8.symm)
    refine x_aload C.1 dX3_tellPerson_36 0 rfl ?_
    refine x_iload_n C.1 dX3_tellPerson_38 3 rfl ?_
    refine x_putI C (N := 129) (i := c1) hc1.1 hc1.2 vc_X4 wx_X4 1 (by decide) wf_X3_46 tyX4 tyX4_ok nmX4 rfl (tyX4_ok 1 (by decide)) rfl dX3_tellPerson_39 rfl rfl ?_
    refine x_gV ?_
    intro V9 hV9
    have hI9 : XI G V9 := hI8.up hV9 (rg_E hc1 1) (by omega) (pr_E hc1 _)
    have hB9 := hB8.up hV9 (⟨by omega, by omega⟩)
    replace hF := hF.to (rdb_e (z := V9) hV9.symm)
    refine x_aload C.1 dX3_tellPerson_42 0 rfl ?_
    refine x_iload_n C.1 dX3_tellPerson_44 4 rfl ?_
    refine x_putI C (N := 129) (i := c1) hc1.1 hc1.2 vc_X4 wx_X4 2 (by decide) wf_X3_49 tyX4 tyX4_ok nmX4 rfl (tyX4_ok 2 (by decide)) rfl dX3_tellPerson_45 rfl rfl ?_
    refine x_gV ?_
    intro V10 hV10
    have hI10 : XI G V10 := hI9.up hV10 (rg_E hc1 2) (by omega) (pr_E hc1 _)
    have hB10 := hB9.up hV10 (⟨by omega, by omega⟩)
    replace hF := hF.to (rdb_e (z := V10) hV10.symm)
    refine x_aload C.1 dX3_tellPerson_48 0 rfl ?_
    refine x_iconst C.1 (n := 0) dX3_tellPerson_50 ?_
    refine x_putI C (N := 129) (i := c1) hc1.1 hc1.2 vc_X4 wx_X4 3 (by decide) wf_X3_52 tyX4 tyX4_ok nmX4 rfl (tyX4_ok 3 (by decide)) rfl dX3_tellPerson_51 rfl rfl ?_
    refine x_gV ?_
    intro V11 hV11
    have hI11 : XI G V11 := hI10.up hV11 (rg_E hc1 3) (by decide) (pr_E hc1 _)
    have hB11 := hB10.up hV11 (⟨by omega, by omega⟩)
    replace hF := hF.to (rdb_e (z := V11) hV11.symm)
    exact x_vret (S := (Nat → Nat → Int)) (post := (fun u : Nat → Nat → Int => XI G u ∧ FB (fun i k : Nat => (k0 ≤ i ∧ i ≤ k0 + 18)) V u ∧ (f_s_tellPerson k0 x1 x2 x3 V J Rr) u)) (w1 := (fun u : Nat → Nat → Int => XW cy ad u J Rr)) C hr rfl dX3_tellPerson_54 V11 rfl ⟨hI11, hB11, hF _ rfl⟩
  · refine x_if_eq C.1 (tgt := 25) dX3_tellPerson_18 (by decide) (by omega) (fun hc12 => ?_) (fun hc12 => ?_)
    · replace hF := hF.to (if_pos hc12)
      refine x_iconst C.1 (n := 1) dX3_tellPerson_25 ?_
      exact jn5 1 ⟨⟨by decide, by decide⟩, hF⟩
    · replace hF := hF.to (if_neg hc12)
      refine x_iconst C.1 (n := 0) dX3_tellPerson_21 ?_
      refine x_goto C.1 (tgt := 26) dX3_tellPerson_22 (by decide) ?_
      exact jn5 0 ⟨⟨by decide, by decide⟩, hF⟩
