theorem dX7_signAt_0 : decode cX7_signAt 0 = .ok (.iload_n 1, 1) := by decide +kernel
theorem dX7_signAt_1 : decode cX7_signAt 1 = .ok (.iload_n 2, 1) := by decide +kernel
theorem dX7_signAt_2 : decode cX7_signAt 2 = .ok (.if_icmp .ge 11, 3) := by decide +kernel
theorem dX7_signAt_5 : decode cX7_signAt 5 = .ok (.aload_n 0, 1) := by decide +kernel
theorem dX7_signAt_6 : decode cX7_signAt 6 = .ok (.iload_n 1, 1) := by decide +kernel
theorem dX7_signAt_7 : decode cX7_signAt 7 = .ok (.invokevirtual 40, 3) := by decide +kernel
theorem dX7_signAt_10 : decode cX7_signAt 10 = .ok (.goto 4, 3) := by decide +kernel
theorem dX7_signAt_13 : decode cX7_signAt 13 = .ok (.iconst (-1), 1) := by decide +kernel
theorem dX7_signAt_14 : decode cX7_signAt 14 = .ok (.ireturn, 1) := by decide +kernel
set_option maxRecDepth 100000 in
def f_s_signAt (x1 : Int) (x2 : Int) (V : Nat → Nat → Int) (J : Nat → Nat → Int) (Rr : Nat → Nat → Nat) : (Int) → Prop :=
  (if x2 ≤ x1 then rtn ((-1)) else calR (f_s_at x1 V J Rr) fun z2 => rtn z2)
set_option maxHeartbeats 8000000 in
set_option maxRecDepth 100000 in
theorem s_signAt (l : Launch) (D : va_G) (cy : Nat → ClassId) (ad : Nat → Nat) (G : Nat → Nat → Int) (V J : Nat → Nat → Int) (Rr : Nat → Nat → Nat) (hI : XI G V) (hJ : VJ J) (hR : XR Rr) (x1 : Int) (bx1 : -2147483648 ≤ x1 ∧ x1 ≤ 2147483647) (x2 : Int) (bx2 : -2147483648 ≤ x2 ∧ x2 ≤ 2147483647) : xMi l D (xTY cy) yX7_signAt cX7_signAt 3 (some .int) 1 21 0 0 [.ref (ad 58), vI x1, vI x2] (XW cy ad V J Rr) (fun _ : Unit => XW cy ad V J Rr) (fun a (u : Unit) => (f_s_signAt x1 x2 V J Rr) a) := by
  refine xMi.mk (lv0 := [(0, .ref (ad 58)), (1, vI x1), (2, vI x2)]) (by decide) rfl (Nat.le_of_ble_eq_true rfl) (fun p e s m below meth c A C hr hnm hAe => ?_)
  have C : xC2 p s m _ meth c D A s.heap 3 cX7_signAt RX7 (xTY cy) := C
  have hF := Imp.of_eq (f_s_signAt.eq_def x1 x2 V J Rr)
  refine x_iload_n C.1 dX7_signAt_0 1 rfl ?_
  refine x_iload_n C.1 dX7_signAt_1 2 rfl ?_
  refine x_icmp_ge C.1 (tgt := 13) dX7_signAt_2 (by decide) (by omega) (by omega) (fun hc1 => ?_) (fun hc1 => ?_)
  · replace hF := hF.to (if_pos hc1)
    refine x_iconst C.1 (n := -1) dX7_signAt_13 ?_
    exact x_iret (S := Unit) (post := (fun a (u : Unit) => (f_s_signAt x1 x2 V J Rr) a)) (w1 := (fun _ : Unit => XW cy ad V J Rr)) (a := (-1)) C hr rfl dX7_signAt_14 (by decide) () rfl (hF _ rfl)
  · replace hF := hF.to (if_neg hc1)
    refine x_aload_n C.1 dX7_signAt_5 0 rfl ?_
    refine x_iload_n C.1 dX7_signAt_6 1 rfl ?_
    refine x_callVi C (As := [vI x1]) (rest := []) 58 (xw_at (N := 129) (i := 58) (by decide) rfl) vc_X8 (s_at l D cy ad G V J Rr hI hJ hR x1 ⟨by omega, by omega⟩) (l1 := []) (l2 := []) (List.append_nil _).symm (w2 := fun _ => XW cy ad V J Rr) (fun _ => List.append_nil _) rfl wm_yX8_at wn_X8 wl_X7_40 wi_yX8_at we_yX8_at hd_yX8_at rfl ⟨Nat.le_of_ble_eq_true rfl, Nat.le_of_ble_eq_true rfl⟩ (Nat.le_of_ble_eq_true rfl) ⟨Nat.le_of_ble_eq_true rfl, Nat.le_of_ble_eq_true rfl⟩ dX7_signAt_7 (fun z2 u2 bz2 h2 => ?_)
    have hFc2 := h2
    replace hF := calR_i hF hFc2
    refine x_goto C.1 (tgt := 14) dX7_signAt_10 (by decide) ?_
    exact x_iret (S := Unit) (post := (fun a (u : Unit) => (f_s_signAt x1 x2 V J Rr) a)) (w1 := (fun _ : Unit => XW cy ad V J Rr)) (a := z2) C hr rfl dX7_signAt_14 (by omega) () rfl (hF _ rfl)
theorem dX7_isComer_0 : decode cX7_isComer 0 = .ok (.iload_n 0, 1) := by decide +kernel
theorem dX7_isComer_1 : decode cX7_isComer 1 = .ok (.bipush 46, 2) := by decide +kernel
theorem dX7_isComer_3 : decode cX7_isComer 3 = .ok (.if_icmp .eq 15, 3) := by decide +kernel
theorem dX7_isComer_6 : decode cX7_isComer 6 = .ok (.iload_n 0, 1) := by decide +kernel
theorem dX7_isComer_7 : decode cX7_isComer 7 = .ok (.bipush 97, 2) := by decide +kernel
theorem dX7_isComer_9 : decode cX7_isComer 9 = .ok (.if_icmp .lt 13, 3) := by decide +kernel
theorem dX7_isComer_12 : decode cX7_isComer 12 = .ok (.iload_n 0, 1) := by decide +kernel
theorem dX7_isComer_13 : decode cX7_isComer 13 = .ok (.bipush 104, 2) := by decide +kernel
theorem dX7_isComer_15 : decode cX7_isComer 15 = .ok (.if_icmp .gt 7, 3) := by decide +kernel
theorem dX7_isComer_18 : decode cX7_isComer 18 = .ok (.iconst 1, 1) := by decide +kernel
theorem dX7_isComer_19 : decode cX7_isComer 19 = .ok (.goto 4, 3) := by decide +kernel
theorem dX7_isComer_22 : decode cX7_isComer 22 = .ok (.iconst 0, 1) := by decide +kernel
theorem dX7_isComer_23 : decode cX7_isComer 23 = .ok (.ireturn, 1) := by decide +kernel
set_option maxRecDepth 100000 in
def f_s_isComer (x0 : Int) : (Int) → Prop :=
  (if x0 = 46 then rtn 1 else (if x0 < 97 then rtn 0 else (if 104 < x0 then rtn 0 else rtn 1)))
set_option maxHeartbeats 8000000 in
set_option maxRecDepth 100000 in
theorem s_isComer (l : Launch) (D : va_G) (cy : Nat → ClassId) (x0 : Int) (bx0 : -2147483648 ≤ x0 ∧ x0 ≤ 2147483647) : xMi l D (xTY cy) yX7_isComer cX7_isComer 1 (some .boolean) 0 0 0 0 [vI x0] [] (fun _ : Unit => []) (fun a (u : Unit) => (0 ≤ a ∧ a ≤ 1) ∧ (f_s_isComer x0) a) := by
  refine xMi.mk (lv0 := [(0, vI x0)]) (by decide) rfl (Nat.le_of_ble_eq_true rfl) (fun p e s m below meth c A C hr hnm hAe => ?_)
  have C : xC2 p s m _ meth c D A s.heap 1 cX7_isComer RX7 (xTY cy) := C
  have hF := Imp.of_eq (f_s_isComer.eq_def x0)
  refine x_iload_n C.1 dX7_isComer_0 0 rfl ?_
  refine x_bipush C.1 (n := 46) dX7_isComer_1 ?_
  refine x_icmp_eq C.1 (tgt := 18) dX7_isComer_3 (by decide) (by omega) (by decide) (fun hc1 => ?_) (fun hc1 => ?_)
  · replace hF := hF.to (if_pos hc1)
    refine x_iconst C.1 (n := 1) dX7_isComer_18 ?_
    refine x_goto C.1 (tgt := 23) dX7_isComer_19 (by decide) ?_
    exact x_zret (S := Unit) (post := (fun a (u : Unit) => (0 ≤ a ∧ a ≤ 1) ∧ (f_s_isComer x0) a)) (w1 := (fun _ : Unit => [])) (a := 1) C hr rfl dX7_isComer_23 (by decide) () rfl ⟨⟨by decide, by decide⟩, hF _ rfl⟩
  · replace hF := hF.to (if_neg hc1)
    refine x_iload_n C.1 dX7_isComer_6 0 rfl ?_
    refine x_bipush C.1 (n := 97) dX7_isComer_7 ?_
    refine x_icmp_lt C.1 (tgt := 22) dX7_isComer_9 (by decide) (by omega) (by decide) (fun hc2 => ?_) (fun hc2 => ?_)
    · replace hF := hF.to (if_pos hc2)
      refine x_iconst C.1 (n := 0) dX7_isComer_22 ?_
      exact x_zret (S := Unit) (post := (fun a (u : Unit) => (0 ≤ a ∧ a ≤ 1) ∧ (f_s_isComer x0) a)) (w1 := (fun _ : Unit => [])) (a := 0) C hr rfl dX7_isComer_23 (by decide) () rfl ⟨⟨by decide, by decide⟩, hF _ rfl⟩
    · replace hF := hF.to (if_neg hc2)
      refine x_iload_n C.1 dX7_isComer_12 0 rfl ?_
      refine x_bipush C.1 (n := 104) dX7_isComer_13 ?_
      refine x_icmp_gt C.1 (tgt := 22) dX7_isComer_15 (by decide) (by omega) (by decide) (fun hc3 => ?_) (fun hc3 => ?_)
      · replace hF := hF.to (if_pos hc3)
        refine x_iconst C.1 (n := 0) dX7_isComer_22 ?_
        exact x_zret (S := Unit) (post := (fun a (u : Unit) => (0 ≤ a ∧ a ≤ 1) ∧ (f_s_isComer x0) a)) (w1 := (fun _ : Unit => [])) (a := 0) C hr rfl dX7_isComer_23 (by decide) () rfl ⟨⟨by decide, by decide⟩, hF _ rfl⟩
      · replace hF := hF.to (if_neg hc3)
        refine x_iconst C.1 (n := 1) dX7_isComer_18 ?_
        refine x_goto C.1 (tgt := 23) dX7_isComer_19 (by decide) ?_
        exact x_zret (S := Unit) (post := (fun a (u : Unit) => (0 ≤ a ∧ a ≤ 1) ∧ (f_s_isComer x0) a)) (w1 := (fun _ : Unit => [])) (a := 1) C hr rfl dX7_isComer_23 (by decide) () rfl ⟨⟨by decide, by decide⟩, hF _ rfl⟩
theorem hd_yX7_isComer : yX7_isComer.cls ≠ "java/lang/invoke/MethodHandle" ∧ yX7_isComer.cls ≠ "java/lang/invoke/VarHandle" ∧ (parseMethodDescriptor yX7_isComer.desc).map (fun d => d.parameters.length) = some 1 := by decide +kernel
theorem dX7_dayFault_0 : decode cX7_dayFault 0 = .ok (.iload_n 1, 1) := by decide +kernel
theorem dX7_dayFault_1 : decode cX7_dayFault 1 = .ok (.iconst 1, 1) := by decide +kernel
theorem dX7_dayFault_2 : decode cX7_dayFault 2 = .ok (.if_icmp .ne 12, 3) := by decide +kernel
theorem dX7_dayFault_5 : decode cX7_dayFault 5 = .ok (.iload_n 0, 1) := by decide +kernel
theorem dX7_dayFault_6 : decode cX7_dayFault 6 = .ok (.invokestatic 27, 3) := by decide +kernel
theorem dX7_dayFault_9 : decode cX7_dayFault 9 = .ok (.ifCond .ne 5, 3) := by decide +kernel
theorem dX7_dayFault_12 : decode cX7_dayFault 12 = .ok (.iconst 1, 1) := by decide +kernel
theorem dX7_dayFault_13 : decode cX7_dayFault 13 = .ok (.ireturn, 1) := by decide +kernel
theorem dX7_dayFault_14 : decode cX7_dayFault 14 = .ok (.iload_n 2, 1) := by decide +kernel
theorem dX7_dayFault_15 : decode cX7_dayFault 15 = .ok (.bipush 12, 2) := by decide +kernel
theorem dX7_dayFault_17 : decode cX7_dayFault 17 = .ok (.if_icmp .lt 5, 3) := by decide +kernel
theorem dX7_dayFault_20 : decode cX7_dayFault 20 = .ok (.iconst 4, 1) := by decide +kernel
theorem dX7_dayFault_21 : decode cX7_dayFault 21 = .ok (.ireturn, 1) := by decide +kernel
theorem dX7_dayFault_22 : decode cX7_dayFault 22 = .ok (.iload_n 3, 1) := by decide +kernel
theorem dX7_dayFault_23 : decode cX7_dayFault 23 = .ok (.iload_n 1, 1) := by decide +kernel
theorem dX7_dayFault_24 : decode cX7_dayFault 24 = .ok (.iadd, 1) := by decide +kernel
theorem dX7_dayFault_25 : decode cX7_dayFault 25 = .ok (.bipush 7, 2) := by decide +kernel
theorem dX7_dayFault_27 : decode cX7_dayFault 27 = .ok (.if_icmp .le 8, 3) := by decide +kernel
theorem dX7_dayFault_30 : decode cX7_dayFault 30 = .ok (.bipush 6, 2) := by decide +kernel
theorem dX7_dayFault_32 : decode cX7_dayFault 32 = .ok (.goto 4, 3) := by decide +kernel
theorem dX7_dayFault_35 : decode cX7_dayFault 35 = .ok (.iconst 0, 1) := by decide +kernel
theorem dX7_dayFault_36 : decode cX7_dayFault 36 = .ok (.ireturn, 1) := by decide +kernel
set_option maxRecDepth 100000 in
def f_s_dayFault (x0 : Int) (x1 : Int) (x2 : Int) (x3 : Int) : (Int) → Prop :=
  (if ¬ x1 = 1 then (if x2 < 12 then rdb (wr (x3 + x1)) fun z3 => (if z3 ≤ 7 then rtn 0 else rtn 6) else rtn 4) else calR (f_s_isComer x0) fun z5 => fct (0 ≤ z5 ∧ z5 ≤ 1) <| (if ¬ z5 = 0 then (if x2 < 12 then rdb (wr (x3 + x1)) fun z8 => (if z8 ≤ 7 then rtn 0 else rtn 6) else rtn 4) else rtn 1))
set_option maxHeartbeats 8000000 in
set_option maxRecDepth 100000 in
theorem s_dayFault (l : Launch) (D : va_G) (cy : Nat → ClassId) (x0 : Int) (bx0 : -2147483648 ≤ x0 ∧ x0 ≤ 2147483647) (x1 : Int) (bx1 : -2147483648 ≤ x1 ∧ x1 ≤ 2147483647) (x2 : Int) (bx2 : -2147483648 ≤ x2 ∧ x2 ≤ 2147483647) (x3 : Int) (bx3 : -2147483648 ≤ x3 ∧ x3 ≤ 2147483647) : xMi l D (xTY cy) yX7_dayFault cX7_dayFault 4 (some .int) 1 20 0 0 [vI x0, vI x1, vI x2, vI x3] [] (fun _ : Unit => []) (fun a (u : Unit) => (f_s_dayFault x0 x1 x2 x3) a) := by
  refine xMi.mk (lv0 := [(0, vI x0), (1, vI x1), (2, vI x2), (3, vI x3)]) (by decide) rfl (Nat.le_of_ble_eq_true rfl) (fun p e s m below meth c A C hr hnm hAe => ?_)
  have C : xC2 p s m _ meth c D A s.heap 4 cX7_dayFault RX7 (xTY cy) := C
  have hF := Imp.of_eq (f_s_dayFault.eq_def x0 x1 x2 x3)
  refine x_iload_n C.1 dX7_dayFault_0 1 rfl ?_
  refine x_iconst C.1 (n := 1) dX7_dayFault_1 ?_
  refine x_icmp_ne C.1 (tgt := 14) dX7_dayFault_2 (by decide) (by omega) (by decide) (fun hc1 => ?_) (fun hc1 => ?_)
  · replace hF := hF.to (if_pos hc1)
    refine x_iload_n C.1 dX7_dayFault_14 2 rfl ?_
    refine x_bipush C.1 (n := 12) dX7_dayFault_15 ?_
    refine x_icmp_lt C.1 (tgt := 22) dX7_dayFault_17 (by decide) (by omega) (by decide) (fun hc2 => ?_) (fun hc2 => ?_)
    · replace hF := hF.to (if_pos hc2)
      refine x_iload_n C.1 dX7_dayFault_22 3 rfl ?_
      refine x_iload_n C.1 dX7_dayFault_23 1 rfl ?_
      refine x_iadd C.1 (v := x3 + x1) (by omega) dX7_dayFault_24 ?_
      refine x_wrapg ?_
      intro z3 bz3 ew3
      replace hF := hF.to (rdb_e (z := z3) ew3.symm)
      refine x_bipush C.1 (n := 7) dX7_dayFault_25 ?_
      refine x_icmp_le C.1 (tgt := 35) dX7_dayFault_27 (by decide) (by omega) (by decide) (fun hc4 => ?_) (fun hc4 => ?_)
      · replace hF := hF.to (if_pos hc4)
        refine x_iconst C.1 (n := 0) dX7_dayFault_35 ?_
        exact x_iret (S := Unit) (post := (fun a (u : Unit) => (f_s_dayFault x0 x1 x2 x3) a)) (w1 := (fun _ : Unit => [])) (a := 0) C hr rfl dX7_dayFault_36 (by decide) () rfl (hF _ rfl)
      · replace hF := hF.to (if_neg hc4)
        refine x_bipush C.1 (n := 6) dX7_dayFault_30 ?_
        refine x_goto C.1 (tgt := 36) dX7_dayFault_32 (by decide) ?_
        exact x_iret (S := Unit) (post := (fun a (u : Unit) => (f_s_dayFault x0 x1 x2 x3) a)) (w1 := (fun _ : Unit => [])) (a := 6) C hr rfl dX7_dayFault_36 (by decide) () rfl (hF _ rfl)
    · replace hF := hF.to (if_neg hc2)
      refine x_iconst C.1 (n := 4) dX7_dayFault_20 ?_
      exact x_iret (S := Unit) (post := (fun a (u : Unit) => (f_s_dayFault x0 x1 x2 x3) a)) (w1 := (fun _ : Unit => [])) (a := 4) C hr rfl dX7_dayFault_21 (by decide) () rfl (hF _ rfl)
  · replace hF := hF.to (if_neg (fun hh => hh hc1))
    refine x_iload_n C.1 dX7_dayFault_5 0 rfl ?_
    refine x_callSi C (As := [vI x0]) (rest := []) (s_isComer l D cy x0 ⟨by omega, by omega⟩) (l1 := []) (l2 := _) rfl (w2 := fun _ => _) (fun _ => rfl) rfl wm_yX7_isComer wn_X7 wl_X7_27 wi_yX7_isComer hd_yX7_isComer rfl ⟨Nat.le_of_ble_eq_true rfl, Nat.le_of_ble_eq_true rfl⟩ (Nat.le_of_ble_eq_true rfl) ⟨Nat.le_of_ble_eq_true rfl, Nat.le_of_ble_eq_true rfl⟩ dX7_dayFault_6 (fun z5 u5 bz5 h5 => ?_)
    obtain ⟨bq5, hFc5⟩ := h5
    replace hF := calR_i hF hFc5
    replace hF := hF.fc bq5
    refine x_if_ne C.1 (tgt := 14) dX7_dayFault_9 (by decide) (by omega) (fun hc6 => ?_) (fun hc6 => ?_)
    · replace hF := hF.to (if_pos hc6)
      refine x_iload_n C.1 dX7_dayFault_14 2 rfl ?_
      refine x_bipush C.1 (n := 12) dX7_dayFault_15 ?_
      refine x_icmp_lt C.1 (tgt := 22) dX7_dayFault_17 (by decide) (by omega) (by decide) (fun hc7 => ?_) (fun hc7 => ?_)
      · replace hF := hF.to (if_pos hc7)
        refine x_iload_n C.1 dX7_dayFault_22 3 rfl ?_
        refine x_iload_n C.1 dX7_dayFault_23 1 rfl ?_
        refine x_iadd C.1 (v := x3 + x1) (by omega) dX7_dayFault_24 ?_
        refine x_wrapg ?_
        intro z8 bz8 ew8
        replace hF := hF.to (rdb_e (z := z8) ew8.symm)
        refine x_bipush C.1 (n := 7) dX7_dayFault_25 ?_
        refine x_icmp_le C.1 (tgt := 35) dX7_dayFault_27 (by decide) (by omega) (by decide) (fun hc9 => ?_) (fun hc9 => ?_)
        · replace hF := hF.to (if_pos hc9)
          refine x_iconst C.1 (n := 0) dX7_dayFault_35 ?_
          exact x_iret (S := Unit) (post := (fun a (u : Unit) => (f_s_dayFault x0 x1 x2 x3) a)) (w1 := (fun _ : Unit => [])) (a := 0) C hr rfl dX7_dayFault_36 (by decide) () rfl (hF _ rfl)
        · replace hF := hF.to (if_neg hc9)
          refine x_bipush C.1 (n := 6) dX7_dayFault_30 ?_
          refine x_goto C.1 (tgt := 36) dX7_dayFault_32 (by decide) ?_
          exact x_iret (S := Unit) (post := (fun a (u : Unit) => (f_s_dayFault x0 x1 x2 x3) a)) (w1 := (fun _ : Unit => [])) (a := 6) C hr rfl dX7_dayFault_36 (by decide) () rfl (hF _ rfl)
      · replace hF := hF.to (if_neg hc7)
        refine x_iconst C.1 (n := 4) dX7_dayFault_20 ?_
        exact x_iret (S := Unit) (post := (fun a (u : Unit) => (f_s_dayFault x0 x1 x2 x3) a)) (w1 := (fun _ : Unit => [])) (a := 4) C hr rfl dX7_dayFault_21 (by decide) () rfl (hF _ rfl)
    · replace hF := hF.to (if_neg (fun hh => hh hc6))
      refine x_iconst C.1 (n := 1) dX7_dayFault_12 ?_
      exact x_iret (S := Unit) (post := (fun a (u : Unit) => (f_s_dayFault x0 x1 x2 x3) a)) (w1 := (fun _ : Unit => [])) (a := 1) C hr rfl dX7_dayFault_13 (by decide) () rfl (hF _ rfl)
theorem dX7_add_0 : decode cX7_add 0 = .ok (.iconst 0, 1) := by decide +kernel
theorem dX7_add_1 : decode cX7_add 1 = .ok (.istore_n 3, 1) := by decide +kernel
theorem dX7_add_2 : decode cX7_add 2 = .ok (.iload_n 3, 1) := by decide +kernel
theorem dX7_add_3 : decode cX7_add 3 = .ok (.iload_n 2, 1) := by decide +kernel
theorem dX7_add_4 : decode cX7_add 4 = .ok (.if_icmp .ge 38, 3) := by decide +kernel
theorem dX7_add_7 : decode cX7_add 7 = .ok (.aload_n 0, 1) := by decide +kernel
theorem dX7_add_8 : decode cX7_add 8 = .ok (.getfield 15, 3) := by decide +kernel
theorem dX7_add_11 : decode cX7_add 11 = .ok (.bipush 84, 2) := by decide +kernel
theorem dX7_add_13 : decode cX7_add 13 = .ok (.if_icmp .ge 29, 3) := by decide +kernel
theorem dX7_add_16 : decode cX7_add 16 = .ok (.aload_n 0, 1) := by decide +kernel
theorem dX7_add_17 : decode cX7_add 17 = .ok (.getfield 11, 3) := by decide +kernel
theorem dX7_add_20 : decode cX7_add 20 = .ok (.aload_n 0, 1) := by decide +kernel
theorem dX7_add_21 : decode cX7_add 21 = .ok (.getfield 15, 3) := by decide +kernel
theorem dX7_add_24 : decode cX7_add 24 = .ok (.iload_n 1, 1) := by decide +kernel
theorem dX7_add_25 : decode cX7_add 25 = .ok (.iastore, 1) := by decide +kernel
theorem dX7_add_26 : decode cX7_add 26 = .ok (.aload_n 0, 1) := by decide +kernel
theorem dX7_add_27 : decode cX7_add 27 = .ok (.dup, 1) := by decide +kernel
theorem dX7_add_28 : decode cX7_add 28 = .ok (.getfield 15, 3) := by decide +kernel
theorem dX7_add_31 : decode cX7_add 31 = .ok (.iconst 1, 1) := by decide +kernel
theorem dX7_add_32 : decode cX7_add 32 = .ok (.iadd, 1) := by decide +kernel
theorem dX7_add_33 : decode cX7_add 33 = .ok (.putfield 15, 3) := by decide +kernel
theorem dX7_add_36 : decode cX7_add 36 = .ok (.iinc 3 1, 3) := by decide +kernel
theorem dX7_add_39 : decode cX7_add 39 = .ok (.goto (-37), 3) := by decide +kernel
theorem dX7_add_42 : decode cX7_add 42 = .ok (.return_, 1) := by decide +kernel
set_option maxRecDepth 100000 in
def f_s_addR (x1 : Int) (x2 : Int) (V : Nat → Nat → Int) (J : Nat → Nat → Int) (Rr : Nat → Nat → Nat) : (Nat → Nat → Int) → Prop :=
  lop2 (2147483649) (fun rc31 (z30 : Int) (V31 : Nat → Nat → Int) => (if x2 ≤ z30 then rtn V31 else rdb (V31 124 1) fun z38 => fct (0 ≤ z38 ∧ z38 ≤ 84) <| (if 84 ≤ z38 then rtn V31 else rdb (up2 V31 125 z38.toNat x1) fun V40 => rdb (up2 V40 124 1 (z38 + 1)) fun V41 => rc31 (z30 + 1) V41))) 0 V
set_option maxHeartbeats 8000000 in
set_option maxRecDepth 100000 in
theorem s_addR (l : Launch) (D : va_G) (cy : Nat → ClassId) (ad : Nat → Nat) (G : Nat → Nat → Int) (V J : Nat → Nat → Int) (Rr : Nat → Nat → Nat) (hI : XI G V) (hJ : VJ J) (hR : XR Rr) (x1 : Int) (bx1 : -2147483648 ≤ x1 ∧ x1 ≤ 2147483647) (x2 : Int) (bx2 : -2147483648 ≤ x2 ∧ x2 ≤ 2147483647) : xMv l D (xTY cy) yX7_add cX7_add 4 none 0 0 0 0 [.ref (ad 124), vI x1, vI x2] (XW cy ad V J Rr) (fun u : Nat → Nat → Int => XW cy ad u J Rr) (fun u : Nat → Nat → Int => XI G u ∧ FB (fun i k : Nat => (124 ≤ i ∧ i ≤ 125)) V u ∧ (f_s_addR x1 x2 V J Rr) u) := by
  refine xMv.mk (lv0 := [(0, .ref (ad 124)), (1, vI x1), (2, vI x2)]) (by decide) rfl (Nat.le_of_ble_eq_true rfl) (fun p e s m below meth c A C hr hnm hAe => ?_)
  have C : xC2 p s m _ meth c D A s.heap 4 cX7_add RX7 (xTY cy) := C
  have hB : FB (fun i k : Nat => (124 ≤ i ∧ i ≤ 125)) V V := FB.rf _ _
  have hF := Imp.of_eq (f_s_addR.eq_def x1 x2 V J Rr)
  refine x_iconst C.1 (n := 0) dX7_add_0 ?_
  refine x_istore_n C.1 (lv' := [(3, vI 0), (0, .ref (ad 124)), (1, vI x1), (2, vI x2)]) dX7_add_1 (by decide) rfl ?_
  obtain ⟨bd31, hbd31, hF⟩ := lop2_ex hF
  refine x_loop (I := fun x : Int × (Nat → Nat → Int) => match x with | (z30, V31) => (0 ≤ z30 ∧ z30 ≤ 2147483647) ∧ XI G V31 ∧ FB (fun i k : Nat => (124 ≤ i ∧ i ≤ 125)) V V31 ∧ (∃ nf : Nat, (2147483648 - z30).toNat < nf ∧ Imp (lop2 nf bd31 z30 V31) (f_s_addR x1 x2 V J Rr))) (μ := fun x : Int × (Nat → Nat → Int) => match x with | (z30, V31) => (2147483648 - z30).toNat) (wsf := fun x : Int × (Nat → Nat → Int) => match x with | (z30, V31) => XW cy ad V31 J Rr) (lvf := fun x : Int × (Nat → Nat → Int) => match x with | (z30, V31) => [(3, vI z30), (0, .ref (ad 124)), (1, vI x1), (2, vI x2)]) (fun x hI31x ih31 => ?_) (0, V) ⟨⟨by decide, by decide⟩, hI, hB, ⟨_, (by omega), hF⟩⟩ rfl rfl
  obtain ⟨z30, V31⟩ := x
  obtain ⟨bz30, hI31, hB31, nf31, hn31, hF⟩ := hI31x
  try dsimp only
  obtain ⟨nf31, rfl⟩ : ∃ mm, nf31 = mm + 1 := ⟨nf31 - 1, (Nat.succ_pred_eq_of_pos (Nat.lt_of_le_of_lt (Nat.zero_le _) hn31)).symm⟩
  replace hF := hF.to (lop2_s hbd31)
  refine x_iload_n C.1 dX7_add_2 0 rfl ?_
  refine x_iload_n C.1 dX7_add_3 3 rfl ?_
  refine x_icmp_ge C.1 (tgt := 42) dX7_add_4 (by decide) (by omega) (by omega) (fun hc37 => ?_) (fun hc37 => ?_)
  · replace hF := hF.to (if_pos hc37)
    exact x_vret (S := (Nat → Nat → Int)) (post := (fun u : Nat → Nat → Int => XI G u ∧ FB (fun i k : Nat => (124 ≤ i ∧ i ≤ 125)) V u ∧ (f_s_addR x1 x2 V J Rr) u)) (w1 := (fun u : Nat → Nat → Int => XW cy ad u J Rr)) C hr rfl dX7_add_42 V31 rfl ⟨hI31, hB31, hF _ rfl⟩
  · replace hF := hF.to (if_neg hc37)
    refine x_aload_n C.1 dX7_add_7 1 rfl ?_
    obtain ⟨z38, ez38, bz38⟩ := hI31.rd 124 1 (x := 0) (y := 84) rfl
    replace hF := hF.to (rdb_e (z := z38) ez38)
    replace hF := hF.fc bz38
    refine x_getI C (N := 129) (i := 124) (by decide) rfl vc_X7 wx_X7 1 (by decide) wf_X7_15 rfl dX7_add_8 (a := z38) ez38 ?_
    refine x_bipush C.1 (n := 84) dX7_add_11 ?_
    refine x_icmp_ge C.1 (tgt := 42) dX7_add_13 (by decide) (by omega) (by decide) (fun hc39 => ?_) (fun hc39 => ?_)
    · replace hF := hF.to (if_pos hc39)
      exact x_vret (S := (Nat → Nat → Int)) (post := (fun u : Nat → Nat → Int => XI G u ∧ FB (fun i k : Nat => (124 ≤ i ∧ i ≤ 125)) V u ∧ (f_s_addR x1 x2 V J Rr) u)) (w1 := (fun u : Nat → Nat → Int => XW cy ad u J Rr)) C hr rfl dX7_add_42 V31 rfl ⟨hI31, hB31, hF _ rfl⟩
    · replace hF := hF.to (if_neg hc39)
      refine x_aload_n C.1 dX7_add_16 1 rfl ?_
      refine x_getA C (N := 129) (i := 124) (by decide) rfl vc_X7 wx_X7 0 (by decide) wf_X7_11 (a := 125) rfl dX7_add_17 ?_
      refine x_aload_n C.1 dX7_add_20 1 rfl ?_
      refine x_getI C (N := 129) (i := 124) (by decide) rfl vc_X7 wx_X7 1 (by decide) wf_X7_15 rfl dX7_add_21 (a := z38) ez38 ?_
      refine x_iload_n C.1 dX7_add_24 2 rfl ?_
      refine x_iast C (N := 129) (i := 125) (q := z38) (a := x1) (by decide) rfl (by omega) (by decide) dX7_add_25 ?_
      refine x_gV ?_
      intro V40 hV40
      have hI40 : XI G V40 := hI31.up hV40 rfl (by omega) rfl
      have hB40 := hB31.up hV40 (⟨by decide, by decide⟩)
      replace hF := hF.to (rdb_e (z := V40) hV40.symm)
      refine x_aload_n C.1 dX7_add_26 1 rfl ?_
      refine x_dup C.1 dX7_add_27 rfl ?_
      refine x_getI C (N := 129) (i := 124) (by decide) rfl vc_X7 wx_X7 1 (by decide) wf_X7_15 rfl dX7_add_28 (a := z38) ((congrFun (congrFun hV40 124) 1).trans ((up2_n _ _ (Or.inl (by decide))).trans ez38)) ?_
      refine x_iconst C.1 (n := 1) dX7_add_31 ?_
      refine x_iadd C.1 (v := z38 + 1) (by omega) dX7_add_32 ?_
      refine x_putI C (N := 129) (i := 124) (by decide) rfl vc_X7 wx_X7 1 (by decide) wf_X7_15 tyX7 tyX7_ok nmX7 rfl (tyX7_ok 1 (by decide)) rfl dX7_add_33 rfl rfl ?_
      refine x_gV ?_
      intro V41 hV41
      have hI41 : XI G V41 := hI40.up hV41 rfl (by omega) rfl
      have hB41 := hB40.up hV41 (⟨by decide, by decide⟩)
      replace hF := hF.to (rdb_e (z := V41) hV41.symm)
      refine x_iinc C.1 (v := z30 + 1) (lv' := [(3, vI (z30 + 1)), (0, .ref (ad 124)), (1, vI x1), (2, vI x2)]) (by omega) dX7_add_36 0 rfl (by decide) rfl ?_
      refine x_goto C.1 (tgt := 2) dX7_add_39 (by decide) ?_
      have hmu31 : (2147483648 - (z30 + 1)).toNat < (2147483648 - z30).toNat := (by omega)
      exact ih31 (z30 + 1, V41) ⟨⟨by omega, by omega⟩, hI41, hB41, ⟨nf31, Nat.lt_of_lt_of_le hmu31 (Nat.le_of_lt_succ hn31), hF⟩⟩ hmu31
theorem hd_yX7_add : yX7_add.cls ≠ "java/lang/invoke/MethodHandle" ∧ yX7_add.cls ≠ "java/lang/invoke/VarHandle" ∧ (parseMethodDescriptor yX7_add.desc).map (fun d => d.parameters.length) = some 2 := by decide +kernel
theorem hd_yX7_dayFault : yX7_dayFault.cls ≠ "java/lang/invoke/MethodHandle" ∧ yX7_dayFault.cls ≠ "java/lang/invoke/VarHandle" ∧ (parseMethodDescriptor yX7_dayFault.desc).map (fun d => d.parameters.length) = some 4 := by decide +kernel
theorem hd_yX7_signAt : yX7_signAt.cls ≠ "java/lang/invoke/MethodHandle" ∧ yX7_signAt.cls ≠ "java/lang/invoke/VarHandle" ∧ (parseMethodDescriptor yX7_signAt.desc).map (fun d => d.parameters.length) = some 3 := by decide +kernel
theorem dX7_read_0 : decode cX7_read 0 = .ok (.aload_n 0, 1) := by decide +kernel
theorem dX7_read_1 : decode cX7_read 1 = .ok (.iconst 0, 1) := by decide +kernel
theorem dX7_read_2 : decode cX7_read 2 = .ok (.putfield 15, 3) := by decide +kernel
theorem dX7_read_5 : decode cX7_read 5 = .ok (.iconst 0, 1) := by decide +kernel
theorem dX7_read_6 : decode cX7_read 6 = .ok (.istore 4, 2) := by decide +kernel
theorem dX7_read_8 : decode cX7_read 8 = .ok (.iconst 0, 1) := by decide +kernel
theorem dX7_read_9 : decode cX7_read 9 = .ok (.istore 5, 2) := by decide +kernel
theorem dX7_read_11 : decode cX7_read 11 = .ok (.iconst 0, 1) := by decide +kernel
theorem dX7_read_12 : decode cX7_read 12 = .ok (.istore 6, 2) := by decide +kernel
theorem dX7_read_14 : decode cX7_read 14 = .ok (.iconst 0, 1) := by decide +kernel
theorem dX7_read_15 : decode cX7_read 15 = .ok (.istore 7, 2) := by decide +kernel
theorem dX7_read_17 : decode cX7_read 17 = .ok (.iload 7, 2) := by decide +kernel
theorem dX7_read_19 : decode cX7_read 19 = .ok (.sipush 180, 3) := by decide +kernel
theorem dX7_read_22 : decode cX7_read 22 = .ok (.if_icmp .gt 216, 3) := by decide +kernel
theorem dX7_read_25 : decode cX7_read 25 = .ok (.iload 6, 2) := by decide +kernel
theorem dX7_read_27 : decode cX7_read 27 = .ok (.iload_n 2, 1) := by decide +kernel
theorem dX7_read_28 : decode cX7_read 28 = .ok (.if_icmp .gt 210, 3) := by decide +kernel
theorem dX7_read_31 : decode cX7_read 31 = .ok (.aload_n 1, 1) := by decide +kernel
theorem dX7_read_32 : decode cX7_read 32 = .ok (.iload 6, 2) := by decide +kernel
theorem dX7_read_34 : decode cX7_read 34 = .ok (.iload_n 2, 1) := by decide +kernel
theorem dX7_read_35 : decode cX7_read 35 = .ok (.invokestatic 19, 3) := by decide +kernel
theorem dX7_read_38 : decode cX7_read 38 = .ok (.istore 8, 2) := by decide +kernel
theorem dX7_read_40 : decode cX7_read 40 = .ok (.iload 5, 2) := by decide +kernel
theorem dX7_read_42 : decode cX7_read 42 = .ok (.bipush 7, 2) := by decide +kernel
theorem dX7_read_44 : decode cX7_read 44 = .ok (.if_icmp .ne 11, 3) := by decide +kernel
theorem dX7_read_47 : decode cX7_read 47 = .ok (.iload 8, 2) := by decide +kernel
theorem dX7_read_49 : decode cX7_read 49 = .ok (.iconst (-1), 1) := by decide +kernel
theorem dX7_read_50 : decode cX7_read 50 = .ok (.if_icmp .ne 5, 3) := by decide +kernel
theorem dX7_read_53 : decode cX7_read 53 = .ok (.iconst 0, 1) := by decide +kernel
theorem dX7_read_54 : decode cX7_read 54 = .ok (.ireturn, 1) := by decide +kernel
theorem dX7_read_55 : decode cX7_read 55 = .ok (.iload 5, 2) := by decide +kernel
theorem dX7_read_57 : decode cX7_read 57 = .ok (.bipush 7, 2) := by decide +kernel
theorem dX7_read_59 : decode cX7_read 59 = .ok (.if_icmp .ne 22, 3) := by decide +kernel
theorem dX7_read_62 : decode cX7_read 62 = .ok (.iload 8, 2) := by decide +kernel
theorem dX7_read_64 : decode cX7_read 64 = .ok (.bipush 47, 2) := by decide +kernel
theorem dX7_read_66 : decode cX7_read 66 = .ok (.if_icmp .ne 15, 3) := by decide +kernel
theorem dX7_read_69 : decode cX7_read 69 = .ok (.iinc 4 1, 3) := by decide +kernel
theorem dX7_read_72 : decode cX7_read 72 = .ok (.iconst 0, 1) := by decide +kernel
theorem dX7_read_73 : decode cX7_read 73 = .ok (.istore 5, 2) := by decide +kernel
theorem dX7_read_75 : decode cX7_read 75 = .ok (.iinc 6 1, 3) := by decide +kernel
theorem dX7_read_78 : decode cX7_read 78 = .ok (.goto 154, 3) := by decide +kernel
theorem dX7_read_81 : decode cX7_read 81 = .ok (.iload 8, 2) := by decide +kernel
theorem dX7_read_83 : decode cX7_read 83 = .ok (.bipush 50, 2) := by decide +kernel
theorem dX7_read_85 : decode cX7_read 85 = .ok (.if_icmp .lt 18, 3) := by decide +kernel
theorem dX7_read_88 : decode cX7_read 88 = .ok (.iload 8, 2) := by decide +kernel
theorem dX7_read_90 : decode cX7_read 90 = .ok (.bipush 55, 2) := by decide +kernel
theorem dX7_read_92 : decode cX7_read 92 = .ok (.if_icmp .gt 11, 3) := by decide +kernel
theorem dX7_read_95 : decode cX7_read 95 = .ok (.iload 8, 2) := by decide +kernel
theorem dX7_read_97 : decode cX7_read 97 = .ok (.bipush 48, 2) := by decide +kernel
theorem dX7_read_99 : decode cX7_read 99 = .ok (.isub, 1) := by decide +kernel
theorem dX7_read_100 : decode cX7_read 100 = .ok (.goto 4, 3) := by decide +kernel
theorem dX7_read_103 : decode cX7_read 103 = .ok (.iconst 1, 1) := by decide +kernel
theorem dX7_read_104 : decode cX7_read 104 = .ok (.istore 9, 2) := by decide +kernel
theorem dX7_read_106 : decode cX7_read 106 = .ok (.iload 8, 2) := by decide +kernel
theorem dX7_read_108 : decode cX7_read 108 = .ok (.iload 9, 2) := by decide +kernel
theorem dX7_read_110 : decode cX7_read 110 = .ok (.iload 4, 2) := by decide +kernel
theorem dX7_read_112 : decode cX7_read 112 = .ok (.iload 5, 2) := by decide +kernel
theorem dX7_read_114 : decode cX7_read 114 = .ok (.invokestatic 23, 3) := by decide +kernel
theorem dX7_read_117 : decode cX7_read 117 = .ok (.istore 10, 2) := by decide +kernel
theorem dX7_read_119 : decode cX7_read 119 = .ok (.iload 10, 2) := by decide +kernel
theorem dX7_read_121 : decode cX7_read 121 = .ok (.ifCond .ne 36, 3) := by decide +kernel
theorem dX7_read_124 : decode cX7_read 124 = .ok (.iload 9, 2) := by decide +kernel
theorem dX7_read_126 : decode cX7_read 126 = .ok (.iconst 1, 1) := by decide +kernel
theorem dX7_read_127 : decode cX7_read 127 = .ok (.if_icmp .le 30, 3) := by decide +kernel
theorem dX7_read_130 : decode cX7_read 130 = .ok (.iinc 6 1, 3) := by decide +kernel
theorem dX7_read_133 : decode cX7_read 133 = .ok (.aload_n 1, 1) := by decide +kernel
theorem dX7_read_134 : decode cX7_read 134 = .ok (.iload 6, 2) := by decide +kernel
theorem dX7_read_136 : decode cX7_read 136 = .ok (.iload_n 2, 1) := by decide +kernel
theorem dX7_read_137 : decode cX7_read 137 = .ok (.invokestatic 19, 3) := by decide +kernel
theorem dX7_read_140 : decode cX7_read 140 = .ok (.istore 8, 2) := by decide +kernel
theorem dX7_read_142 : decode cX7_read 142 = .ok (.iload 8, 2) := by decide +kernel
theorem dX7_read_144 : decode cX7_read 144 = .ok (.invokestatic 27, 3) := by decide +kernel
theorem dX7_read_147 : decode cX7_read 147 = .ok (.ifCond .eq 7, 3) := by decide +kernel
theorem dX7_read_150 : decode cX7_read 150 = .ok (.iconst 0, 1) := by decide +kernel
theorem dX7_read_151 : decode cX7_read 151 = .ok (.goto 4, 3) := by decide +kernel
theorem dX7_read_154 : decode cX7_read 154 = .ok (.iconst 1, 1) := by decide +kernel
theorem dX7_read_155 : decode cX7_read 155 = .ok (.istore 10, 2) := by decide +kernel
theorem dX7_read_157 : decode cX7_read 157 = .ok (.iload 10, 2) := by decide +kernel
theorem dX7_read_159 : decode cX7_read 159 = .ok (.ifCond .ne 26, 3) := by decide +kernel
theorem dX7_read_162 : decode cX7_read 162 = .ok (.iload 8, 2) := by decide +kernel
theorem dX7_read_164 : decode cX7_read 164 = .ok (.bipush 46, 2) := by decide +kernel
theorem dX7_read_166 : decode cX7_read 166 = .ok (.if_icmp .eq 19, 3) := by decide +kernel
theorem dX7_read_169 : decode cX7_read 169 = .ok (.aload_n 3, 1) := by decide +kernel
theorem dX7_read_170 : decode cX7_read 170 = .ok (.iload 8, 2) := by decide +kernel
theorem dX7_read_172 : decode cX7_read 172 = .ok (.bipush 97, 2) := by decide +kernel
theorem dX7_read_174 : decode cX7_read 174 = .ok (.isub, 1) := by decide +kernel
theorem dX7_read_175 : decode cX7_read 175 = .ok (.invokevirtual 31, 3) := by decide +kernel
theorem dX7_read_178 : decode cX7_read 178 = .ok (.ifCond .ne 7, 3) := by decide +kernel
theorem dX7_read_181 : decode cX7_read 181 = .ok (.bipush 7, 2) := by decide +kernel
theorem dX7_read_183 : decode cX7_read 183 = .ok (.istore 10, 2) := by decide +kernel
theorem dX7_read_185 : decode cX7_read 185 = .ok (.iload 10, 2) := by decide +kernel
theorem dX7_read_187 : decode cX7_read 187 = .ok (.ifCond .eq 13, 3) := by decide +kernel
theorem dX7_read_190 : decode cX7_read 190 = .ok (.sipush (-1000), 3) := by decide +kernel
theorem dX7_read_193 : decode cX7_read 193 = .ok (.iload 10, 2) := by decide +kernel
theorem dX7_read_195 : decode cX7_read 195 = .ok (.imul, 1) := by decide +kernel
theorem dX7_read_196 : decode cX7_read 196 = .ok (.iload 6, 2) := by decide +kernel
theorem dX7_read_198 : decode cX7_read 198 = .ok (.isub, 1) := by decide +kernel
theorem dX7_read_199 : decode cX7_read 199 = .ok (.ireturn, 1) := by decide +kernel
theorem dX7_read_200 : decode cX7_read 200 = .ok (.aload_n 0, 1) := by decide +kernel
theorem dX7_read_201 : decode cX7_read 201 = .ok (.iload 8, 2) := by decide +kernel
theorem dX7_read_203 : decode cX7_read 203 = .ok (.bipush 46, 2) := by decide +kernel
theorem dX7_read_205 : decode cX7_read 205 = .ok (.if_icmp .ne 7, 3) := by decide +kernel
theorem dX7_read_208 : decode cX7_read 208 = .ok (.iconst (-1), 1) := by decide +kernel
theorem dX7_read_209 : decode cX7_read 209 = .ok (.goto 8, 3) := by decide +kernel
theorem dX7_read_212 : decode cX7_read 212 = .ok (.iload 8, 2) := by decide +kernel
theorem dX7_read_214 : decode cX7_read 214 = .ok (.bipush 97, 2) := by decide +kernel
theorem dX7_read_216 : decode cX7_read 216 = .ok (.isub, 1) := by decide +kernel
theorem dX7_read_217 : decode cX7_read 217 = .ok (.iload 9, 2) := by decide +kernel
theorem dX7_read_219 : decode cX7_read 219 = .ok (.invokevirtual 36, 3) := by decide +kernel
theorem dX7_read_222 : decode cX7_read 222 = .ok (.iload 5, 2) := by decide +kernel
theorem dX7_read_224 : decode cX7_read 224 = .ok (.iload 9, 2) := by decide +kernel
theorem dX7_read_226 : decode cX7_read 226 = .ok (.iadd, 1) := by decide +kernel
theorem dX7_read_227 : decode cX7_read 227 = .ok (.istore 5, 2) := by decide +kernel
theorem dX7_read_229 : decode cX7_read 229 = .ok (.iinc 6 1, 3) := by decide +kernel
theorem dX7_read_232 : decode cX7_read 232 = .ok (.iinc 7 1, 3) := by decide +kernel
theorem dX7_read_235 : decode cX7_read 235 = .ok (.goto (-218), 3) := by decide +kernel
theorem dX7_read_238 : decode cX7_read 238 = .ok (.iconst 0, 1) := by decide +kernel
theorem dX7_read_239 : decode cX7_read 239 = .ok (.ireturn, 1) := by decide +kernel
set_option maxRecDepth 100000 in
def f_s_readR (x2 : Int) (k3 : Nat) (V : Nat → Nat → Int) (J : Nat → Nat → Int) (Rr : Nat → Nat → Nat) : (Int × (Nat → Nat → Int)) → Prop :=
  rdb (up2 V 124 1 0) fun V1 => lop5 (183) (fun rc926 (z922 : Int) (z923 : Int) (z924 : Int) (z925 : Int) (V926 : Nat → Nat → Int) => (if 180 < z922 then rtn (0, V926) else (if x2 < z923 then rtn (0, V926) else calR (f_s_signAt z923 x2 V926 J Rr) fun z1086 => (if ¬ z924 = 7 then (if ¬ z924 = 7 then jnk (fun (z1090 : Int) => calR (f_s_dayFault z1086 z1090 z925 z924) fun z1092 => jnk (fun (z1100 : Int) (z1101 : Int) (z1102 : Int) => jnk (fun (z1109 : Int) => (if z1109 = 0 then jnk (fun (z1113 : Int) => calUX (fun i k : Nat => (124 ≤ i ∧ i ≤ 125)) V926 (f_s_addR z1113 z1090 V926 J Rr) fun V1115 => rdb (wr (z924 + z1090)) fun z1116 => rdb (wr (z1102 + 1)) fun z1117 => rc926 (z922 + 1) z1117 z1116 z925 V1115) fun jf1114 => (if ¬ z1101 = 46 then rdb (wr (z1101 - 97)) fun z1119 => jf1114 z1119 else jf1114 ((-1))) else rdb (wr ((-1000) * z1109)) fun z1120 => rdb (wr (z1120 - z1102)) fun z1121 => rtn (z1121, V926))) fun jf1110 => (if ¬ z1100 = 0 then jf1110 z1100 else (if z1101 = 46 then jf1110 z1100 else rdb (wr (z1101 - 97)) fun z1124 => calR (f_s_isPerson k3 z1124 V926 J Rr) fun z1125 => fct (0 ≤ z1125 ∧ z1125 ≤ 1) <| (if ¬ z1125 = 0 then jf1110 z1100 else jf1110 7)))) fun jf1103 => (if ¬ z1092 = 0 then jf1103 z1092 z1086 z923 else (if z1090 ≤ 1 then jf1103 z1092 z1086 z923 else rdb (wr (z923 + 1)) fun z1130 => calR (f_s_signAt z1130 x2 V926 J Rr) fun z1131 => calR (f_s_isComer z1131) fun z1132 => fct (0 ≤ z1132 ∧ z1132 ≤ 1) <| jnk (fun (z1133 : Int) => jf1103 z1133 z1131 z1130) fun jf1134 => (if z1132 = 0 then jf1134 1 else jf1134 0)))) fun jf1091 => (if z1086 < 50 then jf1091 1 else (if 55 < z1086 then jf1091 1 else jf1091 (z1086 - 48))) else (if ¬ z1086 = 47 then jnk (fun (z1140 : Int) => calR (f_s_dayFault z1086 z1140 z925 z924) fun z1142 => jnk (fun (z1150 : Int) (z1151 : Int) (z1152 : Int) => jnk (fun (z1159 : Int) => (if z1159 = 0 then jnk (fun (z1163 : Int) => calUX (fun i k : Nat => (124 ≤ i ∧ i ≤ 125)) V926 (f_s_addR z1163 z1140 V926 J Rr) fun V1165 => rdb (wr (z1152 + 1)) fun z1166 => rc926 (z922 + 1) z1166 (z924 + z1140) z925 V1165) fun jf1164 => (if ¬ z1151 = 46 then rdb (wr (z1151 - 97)) fun z1168 => jf1164 z1168 else jf1164 ((-1))) else rdb (wr ((-1000) * z1159)) fun z1169 => rdb (wr (z1169 - z1152)) fun z1170 => rtn (z1170, V926))) fun jf1160 => (if ¬ z1150 = 0 then jf1160 z1150 else (if z1151 = 46 then jf1160 z1150 else rdb (wr (z1151 - 97)) fun z1173 => calR (f_s_isPerson k3 z1173 V926 J Rr) fun z1174 => fct (0 ≤ z1174 ∧ z1174 ≤ 1) <| (if ¬ z1174 = 0 then jf1160 z1150 else jf1160 7)))) fun jf1153 => (if ¬ z1142 = 0 then jf1153 z1142 z1086 z923 else (if z1140 ≤ 1 then jf1153 z1142 z1086 z923 else rdb (wr (z923 + 1)) fun z1179 => calR (f_s_signAt z1179 x2 V926 J Rr) fun z1180 => calR (f_s_isComer z1180) fun z1181 => fct (0 ≤ z1181 ∧ z1181 ≤ 1) <| jnk (fun (z1182 : Int) => jf1153 z1182 z1180 z1179) fun jf1183 => (if z1181 = 0 then jf1183 1 else jf1183 0)))) fun jf1141 => (if z1086 < 50 then jf1141 1 else (if 55 < z1086 then jf1141 1 else jf1141 (z1086 - 48))) else rdb (wr (z925 + 1)) fun z1187 => rdb (wr (z923 + 1)) fun z1188 => rc926 (z922 + 1) z1188 0 z1187 V926)) else (if ¬ z1086 = (-1) then (if ¬ z1086 = 47 then jnk (fun (z1192 : Int) => calR (f_s_dayFault z1086 z1192 z925 z924) fun z1194 => jnk (fun (z1202 : Int) (z1203 : Int) (z1204 : Int) => jnk (fun (z1211 : Int) => (if z1211 = 0 then jnk (fun (z1215 : Int) => calUX (fun i k : Nat => (124 ≤ i ∧ i ≤ 125)) V926 (f_s_addR z1215 z1192 V926 J Rr) fun V1217 => rdb (wr (z1204 + 1)) fun z1218 => rc926 (z922 + 1) z1218 (z924 + z1192) z925 V1217) fun jf1216 => (if ¬ z1203 = 46 then rdb (wr (z1203 - 97)) fun z1220 => jf1216 z1220 else jf1216 ((-1))) else rdb (wr ((-1000) * z1211)) fun z1221 => rdb (wr (z1221 - z1204)) fun z1222 => rtn (z1222, V926))) fun jf1212 => (if ¬ z1202 = 0 then jf1212 z1202 else (if z1203 = 46 then jf1212 z1202 else rdb (wr (z1203 - 97)) fun z1225 => calR (f_s_isPerson k3 z1225 V926 J Rr) fun z1226 => fct (0 ≤ z1226 ∧ z1226 ≤ 1) <| (if ¬ z1226 = 0 then jf1212 z1202 else jf1212 7)))) fun jf1205 => (if ¬ z1194 = 0 then jf1205 z1194 z1086 z923 else (if z1192 ≤ 1 then jf1205 z1194 z1086 z923 else rdb (wr (z923 + 1)) fun z1231 => calR (f_s_signAt z1231 x2 V926 J Rr) fun z1232 => calR (f_s_isComer z1232) fun z1233 => fct (0 ≤ z1233 ∧ z1233 ≤ 1) <| jnk (fun (z1234 : Int) => jf1205 z1234 z1232 z1231) fun jf1235 => (if z1233 = 0 then jf1235 1 else jf1235 0)))) fun jf1193 => (if z1086 < 50 then jf1193 1 else (if 55 < z1086 then jf1193 1 else jf1193 (z1086 - 48))) else rdb (wr (z925 + 1)) fun z1239 => rdb (wr (z923 + 1)) fun z1240 => rc926 (z922 + 1) z1240 0 z1239 V926) else rtn (0, V926)))))) 0 0 0 0 V1
set_option maxHeartbeats 8000000 in
set_option maxRecDepth 100000 in
theorem s_readR (l : Launch) (D : va_G) (cy : Nat → ClassId) (ad : Nat → Nat) (G : Nat → Nat → Int) (V J : Nat → Nat → Int) (Rr : Nat → Nat → Nat) (hI : XI G V) (hJ : VJ J) (hR : XR Rr) (x2 : Int) (bx2 : -2147483648 ≤ x2 ∧ x2 ≤ 2147483647) (k3 : Nat) (hk3 : isLa k3) : xMi l D (xTY cy) yX7_read cX7_read 11 (some .int) 2 43 0 0 [.ref (ad 124), .ref (ad 58), vI x2, .ref (ad k3)] (XW cy ad V J Rr) (fun u : Nat → Nat → Int => XW cy ad u J Rr) (fun a (u : Nat → Nat → Int) => XI G u ∧ FB (fun i k : Nat => (124 ≤ i ∧ i ≤ 125)) V u ∧ (f_s_readR x2 k3 V J Rr) (a, u)) := by
  refine xMi.mk (lv0 := [(0, .ref (ad 124)), (1, .ref (ad 58)), (2, vI x2), (3, .ref (ad k3))]) (by decide) rfl (Nat.le_of_ble_eq_true rfl) (fun p e s m below meth c A C hr hnm hAe => ?_)
  have C : xC2 p s m _ meth c D A s.heap 11 cX7_read RX7 (xTY cy) := C
  have hB : FB (fun i k : Nat => (124 ≤ i ∧ i ≤ 125)) V V := FB.rf _ _
  have hF := Imp.of_eq (f_s_readR.eq_def x2 k3 V J Rr)
  refine x_aload_n C.1 dX7_read_0 0 rfl ?_
  refine x_iconst C.1 (n := 0) dX7_read_1 ?_
  refine x_putI C (N := 129) (i := 124) (by decide) rfl vc_X7 wx_X7 1 (by decide) wf_X7_15 tyX7 tyX7_ok nmX7 rfl (tyX7_ok 1 (by decide)) rfl dX7_read_2 rfl rfl ?_
  refine x_gV ?_
  intro V1 hV1
  have hI1 : XI G V1 := hI.up hV1 rfl (by decide) rfl
  have hB1 := hB.up hV1 (⟨by decide, by decide⟩)
  replace hF := hF.to (rdb_e (z := V1) hV1.symm)
  refine x_iconst C.1 (n := 0) dX7_read_5 ?_
  refine x_istore C.1 (lv' := [(4, vI 0), (0, .ref (ad 124)), (1, .ref (ad 58)), (2, vI x2), (3, .ref (ad k3))]) dX7_read_6 (by decide) rfl ?_
  refine x_iconst C.1 (n := 0) dX7_read_8 ?_
  refine x_istore C.1 (lv' := [(5, vI 0), (4, vI 0), (0, .ref (ad 124)), (1, .ref (ad 58)), (2, vI x2), (3, .ref (ad k3))]) dX7_read_9 (by decide) rfl ?_
  refine x_iconst C.1 (n := 0) dX7_read_11 ?_
  refine x_istore C.1 (lv' := [(6, vI 0), (5, vI 0), (4, vI 0), (0, .ref (ad 124)), (1, .ref (ad 58)), (2, vI x2), (3, .ref (ad k3))]) dX7_read_12 (by decide) rfl ?_
  refine x_iconst C.1 (n := 0) dX7_read_14 ?_
  refine x_istore C.1 (lv' := [(7, vI 0), (6, vI 0), (5, vI 0), (4, vI 0), (0, .ref (ad 124)), (1, .ref (ad 58)), (2, vI x2), (3, .ref (ad k3))]) dX7_read_15 (by decide) rfl ?_
  obtain ⟨bd926, hbd926, hF⟩ := lop5_ex hF
  refine x_loop (I := fun x : Int × Int × Int × Int × (Nat → Nat → Int) => match x with | (z922, z923, z924, z925, V926) => (0 ≤ z922 ∧ z922 ≤ 181) ∧ (-2147483648 ≤ z923 ∧ z923 ≤ 2147483647) ∧ (-2147483648 ≤ z924 ∧ z924 ≤ 2147483647) ∧ (-2147483648 ≤ z925 ∧ z925 ≤ 2147483647) ∧ XI G V926 ∧ FB (fun i k : Nat => (124 ≤ i ∧ i ≤ 125)) V V926 ∧ (∃ nf : Nat, (182 - z922).toNat < nf ∧ Imp (lop5 nf bd926 z922 z923 z924 z925 V926) (f_s_readR x2 k3 V J Rr))) (μ := fun x : Int × Int × Int × Int × (Nat → Nat → Int) => match x with | (z922, z923, z924, z925, V926) => (182 - z922).toNat) (wsf := fun x : Int × Int × Int × Int × (Nat → Nat → Int) => match x with | (z922, z923, z924, z925, V926) => XW cy ad V926 J Rr) (lvf := fun x : Int × Int × Int × Int × (Nat → Nat → Int) => match x with | (z922, z923, z924, z925, V926) => [(7, vI z922), (6, vI z923), (5, vI z924), (4, vI z925), (0, .ref (ad 124)), (1, .ref (ad 58)), (2, vI x2), (3, .ref (ad k3))]) (fun x hI926x ih926 => ?_) (0, 0, 0, 0, V1) ⟨⟨by decide, by decide⟩, ⟨by decide, by decide⟩, ⟨by decide, by decide⟩, ⟨by decide, by decide⟩, hI1, hB1, ⟨_, (by omega), hF⟩⟩ rfl rfl
  obtain ⟨z922, z923, z924, z925, V926⟩ := x
  obtain ⟨bz922, bz923, bz924, bz925, hI926, hB926, nf926, hn926, hF⟩ := hI926x
  try dsimp only
  obtain ⟨nf926, rfl⟩ : ∃ mm, nf926 = mm + 1 := ⟨nf926 - 1, (Nat.succ_pred_eq_of_pos (Nat.lt_of_le_of_lt (Nat.zero_le _) hn926)).symm⟩
  replace hF := hF.to (lop5_s hbd926)
  refine x_iload C.1 dX7_read_17 0 rfl ?_
  refine x_sipush C.1 (n := 180) dX7_read_19 ?_
  refine x_icmp_gt C.1 (tgt := 238) dX7_read_22 (by decide) (by omega) (by decide) (fun hc1084 => ?_) (fun hc1084 => ?_)
  · replace hF := hF.to (if_pos hc1084)
    refine x_iconst C.1 (n := 0) dX7_read_238 ?_
    exact x_iret (S := (Nat → Nat → Int)) (post := (fun a (u : Nat → Nat → Int) => XI G u ∧ FB (fun i k : Nat => (124 ≤ i ∧ i ≤ 125)) V u ∧ (f_s_readR x2 k3 V J Rr) (a, u))) (w1 := (fun u : Nat → Nat → Int => XW cy ad u J Rr)) (a := 0) C hr rfl dX7_read_239 (by decide) V926 rfl ⟨hI926, hB926, hF _ rfl⟩
  · replace hF := hF.to (if_neg hc1084)
    refine x_iload C.1 dX7_read_25 1 rfl ?_
    refine x_iload_n C.1 dX7_read_27 6 rfl ?_
    refine x_icmp_gt C.1 (tgt := 238) dX7_read_28 (by decide) (by omega) (by omega) (fun hc1085 => ?_) (fun hc1085 => ?_)
    · replace hF := hF.to (if_pos hc1085)
      refine x_iconst C.1 (n := 0) dX7_read_238 ?_
      exact x_iret (S := (Nat → Nat → Int)) (post := (fun a (u : Nat → Nat → Int) => XI G u ∧ FB (fun i k : Nat => (124 ≤ i ∧ i ≤ 125)) V u ∧ (f_s_readR x2 k3 V J Rr) (a, u))) (w1 := (fun u : Nat → Nat → Int => XW cy ad u J Rr)) (a := 0) C hr rfl dX7_read_239 (by decide) V926 rfl ⟨hI926, hB926, hF _ rfl⟩
    · replace hF := hF.to (if_neg hc1085)
      refine x_aload_n C.1 dX7_read_31 5 rfl ?_
      refine x_iload C.1 dX7_read_32 1 rfl ?_
      refine x_iload_n C.1 dX7_read_34 6 rfl ?_
      refine x_callSi C (As := [.ref (ad 58), vI z923, vI x2]) (rest := []) (s_signAt l D cy ad G V926 J Rr hI926 hJ hR z923 ⟨by omega, by omega⟩ x2 ⟨by omega, by omega⟩) (l1 := []) (l2 := []) (List.append_nil _).symm (w2 := fun _ => XW cy ad V926 J Rr) (fun _ => List.append_nil _) rfl wm_yX7_signAt wn_X7 wl_X7_19 wi_yX7_signAt hd_yX7_signAt rfl ⟨Nat.le_of_ble_eq_true rfl, Nat.le_of_ble_eq_true rfl⟩ (Nat.le_of_ble_eq_true rfl) ⟨Nat.le_of_ble_eq_true rfl, Nat.le_of_ble_eq_true rfl⟩ dX7_read_35 (fun z1086 u1086 bz1086 h1086 => ?_)
      have hFc1086 := h1086
      replace hF := calR_i hF hFc1086
      refine x_istore C.1 (lv' := [(8, vI z1086), (7, vI z922), (6, vI z923), (5, vI z924), (4, vI z925), (0, .ref (ad 124)), (1, .ref (ad 58)), (2, vI x2), (3, .ref (ad k3))]) dX7_read_38 (by decide) rfl ?_
      refine x_iload C.1 dX7_read_40 3 rfl ?_
      refine x_bipush C.1 (n := 7) dX7_read_42 ?_
      refine x_icmp_ne C.1 (tgt := 55) dX7_read_44 (by decide) (by omega) (by decide) (fun hc1087 => ?_) (fun hc1087 => ?_)
      · replace hF := hF.to (if_pos hc1087)
        refine x_iload C.1 dX7_read_55 3 rfl ?_
        refine x_bipush C.1 (n := 7) dX7_read_57 ?_
        refine x_icmp_ne C.1 (tgt := 81) dX7_read_59 (by decide) (by omega) (by decide) (fun hc1088 => ?_) (fun hc1088 => ?_)
        · replace hF := hF.to (if_pos hc1088)
          refine x_iload C.1 dX7_read_81 0 rfl ?_
          refine x_bipush C.1 (n := 50) dX7_read_83 ?_
          obtain ⟨jf1091, hjf1091, hF⟩ := jn_ex hF
          refine x_join (I := fun z1090 : Int => (1 ≤ z1090 ∧ z1090 ≤ 7) ∧ Imp (jf1091 z1090) (f_s_readR x2 k3 V J Rr)) (wsf := fun z1090 : Int => XW cy ad V926 J Rr) (lvf := fun z1090 : Int => [(8, vI z1086), (7, vI z922), (6, vI z923), (5, vI z924), (4, vI z925), (0, .ref (ad 124)), (1, .ref (ad 58)), (2, vI x2), (3, .ref (ad k3))]) (stf := fun z1090 : Int => [vI z1090]) 104 (fun z1090 hI1091x => ?_) (fun jn1091 => ?_)
          · obtain ⟨bz1090, hF⟩ := hI1091x
            try dsimp only
            replace hF := hF.to (jn_s1 hjf1091)
            refine x_istore C.1 (lv' := [(9, vI z1090), (8, vI z1086), (7, vI z922), (6, vI z923), (5, vI z924), (4, vI z925), (0, .ref (ad 124)), (1, .ref (ad 58)), (2, vI x2), (3, .ref (ad k3))]) dX7_read_104 (by decide) rfl ?_
            refine x_iload C.1 dX7_read_106 1 rfl ?_
            refine x_iload C.1 dX7_read_108 0 rfl ?_
            refine x_iload C.1 dX7_read_110 5 rfl ?_
            refine x_iload C.1 dX7_read_112 4 rfl ?_
            refine x_callSi C (As := [vI z1086, vI z1090, vI z925, vI z924]) (rest := []) (s_dayFault l D cy z1086 ⟨by omega, by omega⟩ z1090 ⟨by omega, by omega⟩ z925 ⟨by omega, by omega⟩ z924 ⟨by omega, by omega⟩) (l1 := []) (l2 := _) rfl (w2 := fun _ => _) (fun _ => rfl) rfl wm_yX7_dayFault wn_X7 wl_X7_23 wi_yX7_dayFault hd_yX7_dayFault rfl ⟨Nat.le_of_ble_eq_true rfl, Nat.le_of_ble_eq_true rfl⟩ (Nat.le_of_ble_eq_true rfl) ⟨Nat.le_of_ble_eq_true rfl, Nat.le_of_ble_eq_true rfl⟩ dX7_read_114 (fun z1092 u1092 bz1092 h1092 => ?_)
            have hFc1092 := h1092
            replace hF := calR_i hF hFc1092
            refine x_istore C.1 (lv' := [(10, vI z1092), (9, vI z1090), (8, vI z1086), (7, vI z922), (6, vI z923), (5, vI z924), (4, vI z925), (0, .ref (ad 124)), (1, .ref (ad 58)), (2, vI x2), (3, .ref (ad k3))]) dX7_read_117 (by decide) rfl ?_
            refine x_iload C.1 dX7_read_119 0 rfl ?_
            obtain ⟨jf1103, hjf1103, hF⟩ := jn_ex hF
            refine x_join (I := fun x : Int × Int × Int => match x with | (z1100, z1101, z1102) => (-2147483648 ≤ z1100 ∧ z1100 ≤ 2147483647) ∧ (-2147483648 ≤ z1101 ∧ z1101 ≤ 2147483647) ∧ (-2147483648 ≤ z1102 ∧ z1102 ≤ 2147483647) ∧ Imp (jf1103 z1100 z1101 z1102) (f_s_readR x2 k3 V J Rr)) (wsf := fun x : Int × Int × Int => match x with | (z1100, z1101, z1102) => XW cy ad V926 J Rr) (lvf := fun x : Int × Int × Int => match x with | (z1100, z1101, z1102) => [(10, vI z1100), (9, vI z1090), (8, vI z1101), (7, vI z922), (6, vI z1102), (5, vI z924), (4, vI z925), (0, .ref (ad 124)), (1, .ref (ad 58)), (2, vI x2), (3, .ref (ad k3))]) (stf := fun x : Int × Int × Int => match x with | (z1100, z1101, z1102) => []) 157 (fun x hI1103x => ?_) (fun jn1103 => ?_)
            · obtain ⟨z1100, z1101, z1102⟩ := x
              obtain ⟨bz1100, bz1101, bz1102, hF⟩ := hI1103x
              try dsimp only
              replace hF := hF.to (jn_s3 hjf1103)
              refine x_iload C.1 dX7_read_157 0 rfl ?_
              obtain ⟨jf1110, hjf1110, hF⟩ := jn_ex hF
              refine x_join (I := fun z1109 : Int => (-2147483648 ≤ z1109 ∧ z1109 ≤ 2147483647) ∧ Imp (jf1110 z1109) (f_s_readR x2 k3 V J Rr)) (wsf := fun z1109 : Int => XW cy ad V926 J Rr) (lvf := fun z1109 : Int => [(10, vI z1109), (9, vI z1090), (8, vI z1101), (7, vI z922), (6, vI z1102), (5, vI z924), (4, vI z925), (0, .ref (ad 124)), (1, .ref (ad 58)), (2, vI x2), (3, .ref (ad k3))]) (stf := fun z1109 : Int => []) 185 (fun z1109 hI1110x => ?_) (fun jn1110 => ?_)
              · obtain ⟨bz1109, hF⟩ := hI1110x
                try dsimp only
                replace hF := hF.to (jn_s1 hjf1110)
                refine x_iload C.1 dX7_read_185 0 rfl ?_
                refine x_if_eq C.1 (tgt := 200) dX7_read_187 (by decide) (by omega) (fun hc1111 => ?_) (fun hc1111 => ?_)
                · replace hF := hF.to (if_pos hc1111)
                  refine x_aload_n C.1 dX7_read_200 7 rfl ?_
                  refine x_iload C.1 dX7_read_201 2 rfl ?_
                  refine x_bipush C.1 (n := 46) dX7_read_203 ?_
                  obtain ⟨jf1114, hjf1114, hF⟩ := jn_ex hF
                  refine x_join (I := fun z1113 : Int => (-2147483648 ≤ z1113 ∧ z1113 ≤ 2147483647) ∧ Imp (jf1114 z1113) (f_s_readR x2 k3 V J Rr)) (wsf := fun z1113 : Int => XW cy ad V926 J Rr) (lvf := fun z1113 : Int => [(10, vI z1109), (9, vI z1090), (8, vI z1101), (7, vI z922), (6, vI z1102), (5, vI z924), (4, vI z925), (0, .ref (ad 124)), (1, .ref (ad 58)), (2, vI x2), (3, .ref (ad k3))]) (stf := fun z1113 : Int => [vI z1113, .ref (ad 124)]) 217 (fun z1113 hI1114x => ?_) (fun jn1114 => ?_)
                  · obtain ⟨bz1113, hF⟩ := hI1114x
                    try dsimp only
                    replace hF := hF.to (jn_s1 hjf1114)
                    refine x_iload C.1 dX7_read_217 1 rfl ?_
                    refine x_callVv C (As := [vI z1113, vI z1090]) (rest := []) 124 (xw_at (N := 129) (i := 124) (by decide) rfl) vc_X7 (s_addR l D cy ad G V926 J Rr hI926 hJ hR z1113 ⟨by omega, by omega⟩ z1090 ⟨by omega, by omega⟩) (l1 := []) (l2 := []) (List.append_nil _).symm (w2 := fun u : Nat → Nat → Int => XW cy ad u J Rr) (fun _ => List.append_nil _) rfl wm_yX7_add wn_X7 wl_X7_36 wi_yX7_add we_yX7_add hd_yX7_add rfl ⟨Nat.le_of_ble_eq_true rfl, Nat.le_of_ble_eq_true rfl⟩ (Nat.le_of_ble_eq_true rfl) ⟨Nat.le_of_ble_eq_true rfl, Nat.le_of_ble_eq_true rfl⟩ dX7_read_219 (fun V1115 h1115 => ?_)
                    obtain ⟨hI1115, hBc1115, hFc1115⟩ := h1115
                    replace hF := calUX_i hF hFc1115 hBc1115
                    have hB1115 := hB926.tr hBc1115 (fun i k h => (h))
                    refine x_iload C.1 dX7_read_222 5 rfl ?_
                    refine x_iload C.1 dX7_read_224 1 rfl ?_
                    refine x_iadd C.1 (v := z924 + z1090) (by omega) dX7_read_226 ?_
                    refine x_wrapg ?_
                    intro z1116 bz1116 ew1116
                    replace hF := hF.to (rdb_e (z := z1116) ew1116.symm)
                    refine x_istore C.1 (lv' := [(5, vI z1116), (10, vI z1109), (9, vI z1090), (8, vI z1101), (7, vI z922), (6, vI z1102), (4, vI z925), (0, .ref (ad 124)), (1, .ref (ad 58)), (2, vI x2), (3, .ref (ad k3))]) dX7_read_227 (by decide) rfl ?_
                    refine x_iinc C.1 (v := z1102 + 1) (lv' := [(6, vI (z1102 + 1)), (5, vI z1116), (10, vI z1109), (9, vI z1090), (8, vI z1101), (7, vI z922), (4, vI z925), (0, .ref (ad 124)), (1, .ref (ad 58)), (2, vI x2), (3, .ref (ad k3))]) (by omega) dX7_read_229 5 rfl (by decide) rfl ?_
                    refine x_wrapl ?_
                    intro z1117 bz1117 ew1117
                    replace hF := hF.to (rdb_e (z := z1117) ew1117.symm)
                    refine x_iinc C.1 (v := z922 + 1) (lv' := [(7, vI (z922 + 1)), (6, vI z1117), (5, vI z1116), (10, vI z1109), (9, vI z1090), (8, vI z1101), (4, vI z925), (0, .ref (ad 124)), (1, .ref (ad 58)), (2, vI x2), (3, .ref (ad k3))]) (by omega) dX7_read_232 5 rfl (by decide) rfl ?_
                    refine x_goto C.1 (tgt := 17) dX7_read_235 (by decide) ?_
                    refine x_lv [(7, vI (z922 + 1)), (6, vI z1117), (5, vI z1116), (4, vI z925), (0, .ref (ad 124)), (1, .ref (ad 58)), (2, vI x2), (3, .ref (ad k3))] [0, 1, 2, 6, 7, 8, 9, 10] rfl ?_
                    have hmu926 : (182 - (z922 + 1)).toNat < (182 - z922).toNat := (by omega)
                    exact ih926 (z922 + 1, z1117, z1116, z925, V1115) ⟨⟨by omega, by omega⟩, ⟨by omega, by omega⟩, ⟨by omega, by omega⟩, ⟨by omega, by omega⟩, hI1115, hB1115, ⟨nf926, Nat.lt_of_lt_of_le hmu926 (Nat.le_of_lt_succ hn926), hF⟩⟩ hmu926
                  · refine x_icmp_ne C.1 (tgt := 212) dX7_read_205 (by decide) (by omega) (by decide) (fun hc1118 => ?_) (fun hc1118 => ?_)
                    · replace hF := hF.to (if_pos hc1118)
                      refine x_iload C.1 dX7_read_212 2 rfl ?_
                      refine x_bipush C.1 (n := 97) dX7_read_214 ?_
                      refine x_isub C.1 (v := z1101 - 97) (by omega) dX7_read_216 ?_
                      refine x_wrapg ?_
                      intro z1119 bz1119 ew1119
                      replace hF := hF.to (rdb_e (z := z1119) ew1119.symm)
                      exact jn1114 z1119 ⟨⟨by omega, by omega⟩, hF⟩
                    · replace hF := hF.to (if_neg (fun hh => hh hc1118))
                      refine x_iconst C.1 (n := -1) dX7_read_208 ?_
                      refine x_goto C.1 (tgt := 217) dX7_read_209 (by decide) ?_
                      exact jn1114 ((-1)) ⟨⟨by decide, by decide⟩, hF⟩
                · replace hF := hF.to (if_neg hc1111)
                  refine x_sipush C.1 (n := -1000) dX7_read_190 ?_
                  refine x_iload C.1 dX7_read_193 0 rfl ?_
                  refine x_imul C.1 (v := (-1000) * z1109) (by omega) dX7_read_195 ?_
                  refine x_wrapg ?_
                  intro z1120 bz1120 ew1120
                  replace hF := hF.to (rdb_e (z := z1120) ew1120.symm)
                  refine x_iload C.1 dX7_read_196 4 rfl ?_
                  refine x_isub C.1 (v := z1120 - z1102) (by omega) dX7_read_198 ?_
                  refine x_wrapg ?_
                  intro z1121 bz1121 ew1121
                  replace hF := hF.to (rdb_e (z := z1121) ew1121.symm)
                  exact x_iret (S := (Nat → Nat → Int)) (post := (fun a (u : Nat → Nat → Int) => XI G u ∧ FB (fun i k : Nat => (124 ≤ i ∧ i ≤ 125)) V u ∧ (f_s_readR x2 k3 V J Rr) (a, u))) (w1 := (fun u : Nat → Nat → Int => XW cy ad u J Rr)) (a := z1121) C hr rfl dX7_read_199 (by omega) V926 rfl ⟨hI926, hB926, hF _ rfl⟩
              · refine x_if_ne C.1 (tgt := 185) dX7_read_159 (by decide) (by omega) (fun hc1122 => ?_) (fun hc1122 => ?_)
                · replace hF := hF.to (if_pos hc1122)
                  exact jn1110 z1100 ⟨⟨by omega, by omega⟩, hF⟩
                · replace hF := hF.to (if_neg (fun hh => hh hc1122))
                  refine x_iload C.1 dX7_read_162 2 rfl ?_
                  refine x_bipush C.1 (n := 46) dX7_read_164 ?_
                  refine x_icmp_eq C.1 (tgt := 185) dX7_read_166 (by decide) (by omega) (by decide) (fun hc1123 => ?_) (fun hc1123 => ?_)
                  · replace hF := hF.to (if_pos hc1123)
                    exact jn1110 z1100 ⟨⟨by omega, by omega⟩, hF⟩
                  · replace hF := hF.to (if_neg hc1123)
                    refine x_aload_n C.1 dX7_read_169 10 rfl ?_
                    refine x_iload C.1 dX7_read_170 2 rfl ?_
                    refine x_bipush C.1 (n := 97) dX7_read_172 ?_
                    refine x_isub C.1 (v := z1101 - 97) (by omega) dX7_read_174 ?_
                    refine x_wrapg ?_
                    intro z1124 bz1124 ew1124
                    replace hF := hF.to (rdb_e (z := z1124) ew1124.symm)
                    refine x_callVi C (As := [vI z1124]) (rest := []) k3 (xw_at (N := 129) (i := k3) (by omega) (xd_L hk3)) vc_X3 (s_isPerson l D cy ad G V926 J Rr hI926 hJ hR k3 hk3 z1124 ⟨by omega, by omega⟩) (l1 := []) (l2 := []) (List.append_nil _).symm (w2 := fun _ => XW cy ad V926 J Rr) (fun _ => List.append_nil _) rfl wm_yX3_isPerson wn_X3 wl_X7_31 wi_yX3_isPerson we_yX3_isPerson hd_yX3_isPerson rfl ⟨Nat.le_of_ble_eq_true rfl, Nat.le_of_ble_eq_true rfl⟩ (Nat.le_of_ble_eq_true rfl) ⟨Nat.le_of_ble_eq_true rfl, Nat.le_of_ble_eq_true rfl⟩ dX7_read_175 (fun z1125 u1125 bz1125 h1125 => ?_)
                    obtain ⟨hon1125, hFc1125⟩ := h1125
                    replace hF := calR_i hF hFc1125
                    replace hF := hF.fc hon1125.r
                    have bq1125 := Sp.r hon1125
                    refine x_if_ne C.1 (tgt := 185) dX7_read_178 (by decide) (by omega) (fun hc1126 => ?_) (fun hc1126 => ?_)
                    · replace hF := hF.to (if_pos hc1126)
                      have hon1127 := Sp.on hon1125 (by omega)
                      exact jn1110 z1100 ⟨⟨by omega, by omega⟩, hF⟩
                    · replace hF := hF.to (if_neg (fun hh => hh hc1126))
                      refine x_bipush C.1 (n := 7) dX7_read_181 ?_
                      refine x_istore C.1 (lv' := [(10, vI 7), (9, vI z1090), (8, vI z1101), (7, vI z922), (6, vI z1102), (5, vI z924), (4, vI z925), (0, .ref (ad 124)), (1, .ref (ad 58)), (2, vI x2), (3, .ref (ad k3))]) dX7_read_183 (by decide) rfl ?_
                      exact jn1110 7 ⟨⟨by decide, by decide⟩, hF⟩
            · refine x_if_ne C.1 (tgt := 157) dX7_read_121 (by decide) (by omega) (fun hc1128 => ?_) (fun hc1128 => ?_)
              · replace hF := hF.to (if_pos hc1128)
                exact jn1103 (z1092, z1086, z923) ⟨⟨by omega, by omega⟩, ⟨by omega, by omega⟩, ⟨by omega, by omega⟩, hF⟩
              · replace hF := hF.to (if_neg (fun hh => hh hc1128))
                refine x_iload C.1 dX7_read_124 1 rfl ?_
                refine x_iconst C.1 (n := 1) dX7_read_126 ?_
                refine x_icmp_le C.1 (tgt := 157) dX7_read_127 (by decide) (by omega) (by decide) (fun hc1129 => ?_) (fun hc1129 => ?_)
                · replace hF := hF.to (if_pos hc1129)
                  exact jn1103 (z1092, z1086, z923) ⟨⟨by omega, by omega⟩, ⟨by omega, by omega⟩, ⟨by omega, by omega⟩, hF⟩
                · replace hF := hF.to (if_neg hc1129)
                  refine x_iinc C.1 (v := z923 + 1) (lv' := [(6, vI (z923 + 1)), (10, vI z1092), (9, vI z1090), (8, vI z1086), (7, vI z922), (5, vI z924), (4, vI z925), (0, .ref (ad 124)), (1, .ref (ad 58)), (2, vI x2), (3, .ref (ad k3))]) (by omega) dX7_read_130 4 rfl (by decide) rfl ?_
                  refine x_wrapl ?_
                  intro z1130 bz1130 ew1130
                  replace hF := hF.to (rdb_e (z := z1130) ew1130.symm)
                  refine x_aload_n C.1 dX7_read_133 8 rfl ?_
                  refine x_iload C.1 dX7_read_134 0 rfl ?_
                  refine x_iload_n C.1 dX7_read_136 9 rfl ?_
                  refine x_callSi C (As := [.ref (ad 58), vI z1130, vI x2]) (rest := []) (s_signAt l D cy ad G V926 J Rr hI926 hJ hR z1130 ⟨by omega, by omega⟩ x2 ⟨by omega, by omega⟩) (l1 := []) (l2 := []) (List.append_nil _).symm (w2 := fun _ => XW cy ad V926 J Rr) (fun _ => List.append_nil _) rfl wm_yX7_signAt wn_X7 wl_X7_19 wi_yX7_signAt hd_yX7_signAt rfl ⟨Nat.le_of_ble_eq_true rfl, Nat.le_of_ble_eq_true rfl⟩ (Nat.le_of_ble_eq_true rfl) ⟨Nat.le_of_ble_eq_true rfl, Nat.le_of_ble_eq_true rfl⟩ dX7_read_137 (fun z1131 u1131 bz1131 h1131 => ?_)
                  have hFc1131 := h1131
                  replace hF := calR_i hF hFc1131
                  refine x_istore C.1 (lv' := [(8, vI z1131), (6, vI z1130), (10, vI z1092), (9, vI z1090), (7, vI z922), (5, vI z924), (4, vI z925), (0, .ref (ad 124)), (1, .ref (ad 58)), (2, vI x2), (3, .ref (ad k3))]) dX7_read_140 (by decide) rfl ?_
                  refine x_iload C.1 dX7_read_142 0 rfl ?_
                  refine x_callSi C (As := [vI z1131]) (rest := []) (s_isComer l D cy z1131 ⟨by omega, by omega⟩) (l1 := []) (l2 := _) rfl (w2 := fun _ => _) (fun _ => rfl) rfl wm_yX7_isComer wn_X7 wl_X7_27 wi_yX7_isComer hd_yX7_isComer rfl ⟨Nat.le_of_ble_eq_true rfl, Nat.le_of_ble_eq_true rfl⟩ (Nat.le_of_ble_eq_true rfl) ⟨Nat.le_of_ble_eq_true rfl, Nat.le_of_ble_eq_true rfl⟩ dX7_read_144 (fun z1132 u1132 bz1132 h1132 => ?_)
                  obtain ⟨bq1132, hFc1132⟩ := h1132
                  replace hF := calR_i hF hFc1132
                  replace hF := hF.fc bq1132
                  obtain ⟨jf1134, hjf1134, hF⟩ := jn_ex hF
                  refine x_join (I := fun z1133 : Int => (0 ≤ z1133 ∧ z1133 ≤ 1) ∧ Imp (jf1134 z1133) (f_s_readR x2 k3 V J Rr)) (wsf := fun z1133 : Int => XW cy ad V926 J Rr) (lvf := fun z1133 : Int => [(8, vI z1131), (6, vI z1130), (10, vI z1092), (9, vI z1090), (7, vI z922), (5, vI z924), (4, vI z925), (0, .ref (ad 124)), (1, .ref (ad 58)), (2, vI x2), (3, .ref (ad k3))]) (stf := fun z1133 : Int => [vI z1133]) 155 (fun z1133 hI1134x => ?_) (fun jn1134 => ?_)
                  · obtain ⟨bz1133, hF⟩ := hI1134x
                    try dsimp only
                    replace hF := hF.to (jn_s1 hjf1134)
                    refine x_istore C.1 (lv' := [(10, vI z1133), (8, vI z1131), (6, vI z1130), (9, vI z1090), (7, vI z922), (5, vI z924), (4, vI z925), (0, .ref (ad 124)), (1, .ref (ad 58)), (2, vI x2), (3, .ref (ad k3))]) dX7_read_155 (by decide) rfl ?_
                    refine x_lv [(10, vI z1133), (9, vI z1090), (8, vI z1131), (7, vI z922), (6, vI z1130), (5, vI z924), (4, vI z925), (0, .ref (ad 124)), (1, .ref (ad 58)), (2, vI x2), (3, .ref (ad k3))] [0, 3, 1, 4, 2, 5, 6, 7, 8, 9, 10] rfl ?_
                    exact jn1103 (z1133, z1131, z1130) ⟨⟨by omega, by omega⟩, ⟨by omega, by omega⟩, ⟨by omega, by omega⟩, hF⟩
                  · refine x_if_eq C.1 (tgt := 154) dX7_read_147 (by decide) (by omega) (fun hc1135 => ?_) (fun hc1135 => ?_)
                    · replace hF := hF.to (if_pos hc1135)
                      refine x_iconst C.1 (n := 1) dX7_read_154 ?_
                      exact jn1134 1 ⟨⟨by decide, by decide⟩, hF⟩
                    · replace hF := hF.to (if_neg hc1135)
                      refine x_iconst C.1 (n := 0) dX7_read_150 ?_
                      refine x_goto C.1 (tgt := 155) dX7_read_151 (by decide) ?_
                      exact jn1134 0 ⟨⟨by decide, by decide⟩, hF⟩
          · refine x_icmp_lt C.1 (tgt := 103) dX7_read_85 (by decide) (by omega) (by decide) (fun hc1136 => ?_) (fun hc1136 => ?_)
            · replace hF := hF.to (if_pos hc1136)
              refine x_iconst C.1 (n := 1) dX7_read_103 ?_
              exact jn1091 1 ⟨⟨by decide, by decide⟩, hF⟩
            · replace hF := hF.to (if_neg hc1136)
              refine x_iload C.1 dX7_read_88 0 rfl ?_
              refine x_bipush C.1 (n := 55) dX7_read_90 ?_
              refine x_icmp_gt C.1 (tgt := 103) dX7_read_92 (by decide) (by omega) (by decide) (fun hc1137 => ?_) (fun hc1137 => ?_)
              · replace hF := hF.to (if_pos hc1137)
                refine x_iconst C.1 (n := 1) dX7_read_103 ?_
                exact jn1091 1 ⟨⟨by decide, by decide⟩, hF⟩
              · replace hF := hF.to (if_neg hc1137)
                refine x_iload C.1 dX7_read_95 0 rfl ?_
                refine x_bipush C.1 (n := 48) dX7_read_97 ?_
                refine x_isub C.1 (v := z1086 - 48) (by omega) dX7_read_99 ?_
                refine x_goto C.1 (tgt := 104) dX7_read_100 (by decide) ?_
                exact jn1091 (z1086 - 48) ⟨⟨by omega, by omega⟩, hF⟩
        · replace hF := hF.to (if_neg (fun hh => hh hc1088))
          refine x_iload C.1 dX7_read_62 0 rfl ?_
          refine x_bipush C.1 (n := 47) dX7_read_64 ?_
          refine x_icmp_ne C.1 (tgt := 81) dX7_read_66 (by decide) (by omega) (by decide) (fun hc1138 => ?_) (fun hc1138 => ?_)
          · replace hF := hF.to (if_pos hc1138)
            refine x_iload C.1 dX7_read_81 0 rfl ?_
            refine x_bipush C.1 (n := 50) dX7_read_83 ?_
            obtain ⟨jf1141, hjf1141, hF⟩ := jn_ex hF
            refine x_join (I := fun z1140 : Int => (1 ≤ z1140 ∧ z1140 ≤ 7) ∧ Imp (jf1141 z1140) (f_s_readR x2 k3 V J Rr)) (wsf := fun z1140 : Int => XW cy ad V926 J Rr) (lvf := fun z1140 : Int => [(8, vI z1086), (7, vI z922), (6, vI z923), (5, vI z924), (4, vI z925), (0, .ref (ad 124)), (1, .ref (ad 58)), (2, vI x2), (3, .ref (ad k3))]) (stf := fun z1140 : Int => [vI z1140]) 104 (fun z1140 hI1141x => ?_) (fun jn1141 => ?_)
            · obtain ⟨bz1140, hF⟩ := hI1141x
              try dsimp only
              replace hF := hF.to (jn_s1 hjf1141)
              refine x_istore C.1 (lv' := [(9, vI z1140), (8, vI z1086), (7, vI z922), (6, vI z923), (5, vI z924), (4, vI z925), (0, .ref (ad 124)), (1, .ref (ad 58)), (2, vI x2), (3, .ref (ad k3))]) dX7_read_104 (by decide) rfl ?_
              refine x_iload C.1 dX7_read_106 1 rfl ?_
              refine x_iload C.1 dX7_read_108 0 rfl ?_
              refine x_iload C.1 dX7_read_110 5 rfl ?_
              refine x_iload C.1 dX7_read_112 4 rfl ?_
              refine x_callSi C (As := [vI z1086, vI z1140, vI z925, vI z924]) (rest := []) (s_dayFault l D cy z1086 ⟨by omega, by omega⟩ z1140 ⟨by omega, by omega⟩ z925 ⟨by omega, by omega⟩ z924 ⟨by omega, by omega⟩) (l1 := []) (l2 := _) rfl (w2 := fun _ => _) (fun _ => rfl) rfl wm_yX7_dayFault wn_X7 wl_X7_23 wi_yX7_dayFault hd_yX7_dayFault rfl ⟨Nat.le_of_ble_eq_true rfl, Nat.le_of_ble_eq_true rfl⟩ (Nat.le_of_ble_eq_true rfl) ⟨Nat.le_of_ble_eq_true rfl, Nat.le_of_ble_eq_true rfl⟩ dX7_read_114 (fun z1142 u1142 bz1142 h1142 => ?_)
              have hFc1142 := h1142
              replace hF := calR_i hF hFc1142
              refine x_istore C.1 (lv' := [(10, vI z1142), (9, vI z1140), (8, vI z1086), (7, vI z922), (6, vI z923), (5, vI z924), (4, vI z925), (0, .ref (ad 124)), (1, .ref (ad 58)), (2, vI x2), (3, .ref (ad k3))]) dX7_read_117 (by decide) rfl ?_
              refine x_iload C.1 dX7_read_119 0 rfl ?_
              obtain ⟨jf1153, hjf1153, hF⟩ := jn_ex hF
              refine x_join (I := fun x : Int × Int × Int => match x with | (z1150, z1151, z1152) => (-2147483648 ≤ z1150 ∧ z1150 ≤ 2147483647) ∧ (-2147483648 ≤ z1151 ∧ z1151 ≤ 2147483647) ∧ (-2147483648 ≤ z1152 ∧ z1152 ≤ 2147483647) ∧ Imp (jf1153 z1150 z1151 z1152) (f_s_readR x2 k3 V J Rr)) (wsf := fun x : Int × Int × Int => match x with | (z1150, z1151, z1152) => XW cy ad V926 J Rr) (lvf := fun x : Int × Int × Int => match x with | (z1150, z1151, z1152) => [(10, vI z1150), (9, vI z1140), (8, vI z1151), (7, vI z922), (6, vI z1152), (5, vI z924), (4, vI z925), (0, .ref (ad 124)), (1, .ref (ad 58)), (2, vI x2), (3, .ref (ad k3))]) (stf := fun x : Int × Int × Int => match x with | (z1150, z1151, z1152) => []) 157 (fun x hI1153x => ?_) (fun jn1153 => ?_)
              · obtain ⟨z1150, z1151, z1152⟩ := x
                obtain ⟨bz1150, bz1151, bz1152, hF⟩ := hI1153x
                try dsimp only
                replace hF := hF.to (jn_s3 hjf1153)
                refine x_iload C.1 dX7_read_157 0 rfl ?_
                obtain ⟨jf1160, hjf1160, hF⟩ := jn_ex hF
                refine x_join (I := fun z1159 : Int => (-2147483648 ≤ z1159 ∧ z1159 ≤ 2147483647) ∧ Imp (jf1160 z1159) (f_s_readR x2 k3 V J Rr)) (wsf := fun z1159 : Int => XW cy ad V926 J Rr) (lvf := fun z1159 : Int => [(10, vI z1159), (9, vI z1140), (8, vI z1151), (7, vI z922), (6, vI z1152), (5, vI z924), (4, vI z925), (0, .ref (ad 124)), (1, .ref (ad 58)), (2, vI x2), (3, .ref (ad k3))]) (stf := fun z1159 : Int => []) 185 (fun z1159 hI1160x => ?_) (fun jn1160 => ?_)
                · obtain ⟨bz1159, hF⟩ := hI1160x
                  try dsimp only
                  replace hF := hF.to (jn_s1 hjf1160)
                  refine x_iload C.1 dX7_read_185 0 rfl ?_
                  refine x_if_eq C.1 (tgt := 200) dX7_read_187 (by decide) (by omega) (fun hc1161 => ?_) (fun hc1161 => ?_)
                  · replace hF := hF.to (if_pos hc1161)
                    refine x_aload_n C.1 dX7_read_200 7 rfl ?_
                    refine x_iload C.1 dX7_read_201 2 rfl ?_
                    refine x_bipush C.1 (n := 46) dX7_read_203 ?_
                    obtain ⟨jf1164, hjf1164, hF⟩ := jn_ex hF
                    refine x_join (I := fun z1163 : Int => (-2147483648 ≤ z1163 ∧ z1163 ≤ 2147483647) ∧ Imp (jf1164 z1163) (f_s_readR x2 k3 V J Rr)) (wsf := fun z1163 : Int => XW cy ad V926 J Rr) (lvf := fun z1163 : Int => [(10, vI z1159), (9, vI z1140), (8, vI z1151), (7, vI z922), (6, vI z1152), (5, vI z924), (4, vI z925), (0, .ref (ad 124)), (1, .ref (ad 58)), (2, vI x2), (3, .ref (ad k3))]) (stf := fun z1163 : Int => [vI z1163, .ref (ad 124)]) 217 (fun z1163 hI1164x => ?_) (fun jn1164 => ?_)
                    · obtain ⟨bz1163, hF⟩ := hI1164x
                      try dsimp only
                      replace hF := hF.to (jn_s1 hjf1164)
                      refine x_iload C.1 dX7_read_217 1 rfl ?_
                      refine x_callVv C (As := [vI z1163, vI z1140]) (rest := []) 124 (xw_at (N := 129) (i := 124) (by decide) rfl) vc_X7 (s_addR l D cy ad G V926 J Rr hI926 hJ hR z1163 ⟨by omega, by omega⟩ z1140 ⟨by omega, by omega⟩) (l1 := []) (l2 := []) (List.append_nil _).symm (w2 := fun u : Nat → Nat → Int => XW cy ad u J Rr) (fun _ => List.append_nil _) rfl wm_yX7_add wn_X7 wl_X7_36 wi_yX7_add we_yX7_add hd_yX7_add rfl ⟨Nat.le_of_ble_eq_true rfl, Nat.le_of_ble_eq_true rfl⟩ (Nat.le_of_ble_eq_true rfl) ⟨Nat.le_of_ble_eq_true rfl, Nat.le_of_ble_eq_true rfl⟩ dX7_read_219 (fun V1165 h1165 => ?_)
                      obtain ⟨hI1165, hBc1165, hFc1165⟩ := h1165
                      replace hF := calUX_i hF hFc1165 hBc1165
                      have hB1165 := hB926.tr hBc1165 (fun i k h => (h))
                      refine x_iload C.1 dX7_read_222 5 rfl ?_
                      refine x_iload C.1 dX7_read_224 1 rfl ?_
                      refine x_iadd C.1 (v := z924 + z1140) (by omega) dX7_read_226 ?_
                      refine x_istore C.1 (lv' := [(5, vI (z924 + z1140)), (10, vI z1159), (9, vI z1140), (8, vI z1151), (7, vI z922), (6, vI z1152), (4, vI z925), (0, .ref (ad 124)), (1, .ref (ad 58)), (2, vI x2), (3, .ref (ad k3))]) dX7_read_227 (by decide) rfl ?_
                      refine x_iinc C.1 (v := z1152 + 1) (lv' := [(6, vI (z1152 + 1)), (5, vI (z924 + z1140)), (10, vI z1159), (9, vI z1140), (8, vI z1151), (7, vI z922), (4, vI z925), (0, .ref (ad 124)), (1, .ref (ad 58)), (2, vI x2), (3, .ref (ad k3))]) (by omega) dX7_read_229 5 rfl (by decide) rfl ?_
                      refine x_wrapl ?_
                      intro z1166 bz1166 ew1166
                      replace hF := hF.to (rdb_e (z := z1166) ew1166.symm)
                      refine x_iinc C.1 (v := z922 + 1) (lv' := [(7, vI (z922 + 1)), (6, vI z1166), (5, vI (z924 + z1140)), (10, vI z1159), (9, vI z1140), (8, vI z1151), (4, vI z925), (0, .ref (ad 124)), (1, .ref (ad 58)), (2, vI x2), (3, .ref (ad k3))]) (by omega) dX7_read_232 5 rfl (by decide) rfl ?_
                      refine x_goto C.1 (tgt := 17) dX7_read_235 (by decide) ?_
                      refine x_lv [(7, vI (z922 + 1)), (6, vI z1166), (5, vI (z924 + z1140)), (4, vI z925), (0, .ref (ad 124)), (1, .ref (ad 58)), (2, vI x2), (3, .ref (ad k3))] [0, 1, 2, 6, 7, 8, 9, 10] rfl ?_
                      have hmu926 : (182 - (z922 + 1)).toNat < (182 - z922).toNat := (by omega)
                      exact ih926 (z922 + 1, z1166, z924 + z1140, z925, V1165) ⟨⟨by omega, by omega⟩, ⟨by omega, by omega⟩, ⟨by omega, by omega⟩, ⟨by omega, by omega⟩, hI1165, hB1165, ⟨nf926, Nat.lt_of_lt_of_le hmu926 (Nat.le_of_lt_succ hn926), hF⟩⟩ hmu926
                    · refine x_icmp_ne C.1 (tgt := 212) dX7_read_205 (by decide) (by omega) (by decide) (fun hc1167 => ?_) (fun hc1167 => ?_)
                      · replace hF := hF.to (if_pos hc1167)
                        refine x_iload C.1 dX7_read_212 2 rfl ?_
                        refine x_bipush C.1 (n := 97) dX7_read_214 ?_
                        refine x_isub C.1 (v := z1151 - 97) (by omega) dX7_read_216 ?_
                        refine x_wrapg ?_
                        intro z1168 bz1168 ew1168
                        replace hF := hF.to (rdb_e (z := z1168) ew1168.symm)
                        exact jn1164 z1168 ⟨⟨by omega, by omega⟩, hF⟩
                      · replace hF := hF.to (if_neg (fun hh => hh hc1167))
                        refine x_iconst C.1 (n := -1) dX7_read_208 ?_
                        refine x_goto C.1 (tgt := 217) dX7_read_209 (by decide) ?_
                        exact jn1164 ((-1)) ⟨⟨by decide, by decide⟩, hF⟩
                  · replace hF := hF.to (if_neg hc1161)
                    refine x_sipush C.1 (n := -1000) dX7_read_190 ?_
                    refine x_iload C.1 dX7_read_193 0 rfl ?_
                    refine x_imul C.1 (v := (-1000) * z1159) (by omega) dX7_read_195 ?_
                    refine x_wrapg ?_
                    intro z1169 bz1169 ew1169
                    replace hF := hF.to (rdb_e (z := z1169) ew1169.symm)
                    refine x_iload C.1 dX7_read_196 4 rfl ?_
                    refine x_isub C.1 (v := z1169 - z1152) (by omega) dX7_read_198 ?_
                    refine x_wrapg ?_
                    intro z1170 bz1170 ew1170
                    replace hF := hF.to (rdb_e (z := z1170) ew1170.symm)
                    exact x_iret (S := (Nat → Nat → Int)) (post := (fun a (u : Nat → Nat → Int) => XI G u ∧ FB (fun i k : Nat => (124 ≤ i ∧ i ≤ 125)) V u ∧ (f_s_readR x2 k3 V J Rr) (a, u))) (w1 := (fun u : Nat → Nat → Int => XW cy ad u J Rr)) (a := z1170) C hr rfl dX7_read_199 (by omega) V926 rfl ⟨hI926, hB926, hF _ rfl⟩
                · refine x_if_ne C.1 (tgt := 185) dX7_read_159 (by decide) (by omega) (fun hc1171 => ?_) (fun hc1171 => ?_)
                  · replace hF := hF.to (if_pos hc1171)
                    exact jn1160 z1150 ⟨⟨by omega, by omega⟩, hF⟩
                  · replace hF := hF.to (if_neg (fun hh => hh hc1171))
                    refine x_iload C.1 dX7_read_162 2 rfl ?_
                    refine x_bipush C.1 (n := 46) dX7_read_164 ?_
                    refine x_icmp_eq C.1 (tgt := 185) dX7_read_166 (by decide) (by omega) (by decide) (fun hc1172 => ?_) (fun hc1172 => ?_)
                    · replace hF := hF.to (if_pos hc1172)
                      exact jn1160 z1150 ⟨⟨by omega, by omega⟩, hF⟩
                    · replace hF := hF.to (if_neg hc1172)
                      refine x_aload_n C.1 dX7_read_169 10 rfl ?_
                      refine x_iload C.1 dX7_read_170 2 rfl ?_
                      refine x_bipush C.1 (n := 97) dX7_read_172 ?_
                      refine x_isub C.1 (v := z1151 - 97) (by omega) dX7_read_174 ?_
                      refine x_wrapg ?_
                      intro z1173 bz1173 ew1173
                      replace hF := hF.to (rdb_e (z := z1173) ew1173.symm)
                      refine x_callVi C (As := [vI z1173]) (rest := []) k3 (xw_at (N := 129) (i := k3) (by omega) (xd_L hk3)) vc_X3 (s_isPerson l D cy ad G V926 J Rr hI926 hJ hR k3 hk3 z1173 ⟨by omega, by omega⟩) (l1 := []) (l2 := []) (List.append_nil _).symm (w2 := fun _ => XW cy ad V926 J Rr) (fun _ => List.append_nil _) rfl wm_yX3_isPerson wn_X3 wl_X7_31 wi_yX3_isPerson we_yX3_isPerson hd_yX3_isPerson rfl ⟨Nat.le_of_ble_eq_true rfl, Nat.le_of_ble_eq_true rfl⟩ (Nat.le_of_ble_eq_true rfl) ⟨Nat.le_of_ble_eq_true rfl, Nat.le_of_ble_eq_true rfl⟩ dX7_read_175 (fun z1174 u1174 bz1174 h1174 => ?_)
                      obtain ⟨hon1174, hFc1174⟩ := h1174
                      replace hF := calR_i hF hFc1174
                      replace hF := hF.fc hon1174.r
                      have bq1174 := Sp.r hon1174
                      refine x_if_ne C.1 (tgt := 185) dX7_read_178 (by decide) (by omega) (fun hc1175 => ?_) (fun hc1175 => ?_)
                      · replace hF := hF.to (if_pos hc1175)
                        have hon1176 := Sp.on hon1174 (by omega)
                        exact jn1160 z1150 ⟨⟨by omega, by omega⟩, hF⟩
                      · replace hF := hF.to (if_neg (fun hh => hh hc1175))
                        refine x_bipush C.1 (n := 7) dX7_read_181 ?_
                        refine x_istore C.1 (lv' := [(10, vI 7), (9, vI z1140), (8, vI z1151), (7, vI z922), (6, vI z1152), (5, vI z924), (4, vI z925), (0, .ref (ad 124)), (1, .ref (ad 58)), (2, vI x2), (3, .ref (ad k3))]) dX7_read_183 (by decide) rfl ?_
                        exact jn1160 7 ⟨⟨by decide, by decide⟩, hF⟩
              · refine x_if_ne C.1 (tgt := 157) dX7_read_121 (by decide) (by omega) (fun hc1177 => ?_) (fun hc1177 => ?_)
                · replace hF := hF.to (if_pos hc1177)
                  exact jn1153 (z1142, z1086, z923) ⟨⟨by omega, by omega⟩, ⟨by omega, by omega⟩, ⟨by omega, by omega⟩, hF⟩
                · replace hF := hF.to (if_neg (fun hh => hh hc1177))
                  refine x_iload C.1 dX7_read_124 1 rfl ?_
                  refine x_iconst C.1 (n := 1) dX7_read_126 ?_
                  refine x_icmp_le C.1 (tgt := 157) dX7_read_127 (by decide) (by omega) (by decide) (fun hc1178 => ?_) (fun hc1178 => ?_)
                  · replace hF := hF.to (if_pos hc1178)
                    exact jn1153 (z1142, z1086, z923) ⟨⟨by omega, by omega⟩, ⟨by omega, by omega⟩, ⟨by omega, by omega⟩, hF⟩
                  · replace hF := hF.to (if_neg hc1178)
                    refine x_iinc C.1 (v := z923 + 1) (lv' := [(6, vI (z923 + 1)), (10, vI z1142), (9, vI z1140), (8, vI z1086), (7, vI z922), (5, vI z924), (4, vI z925), (0, .ref (ad 124)), (1, .ref (ad 58)), (2, vI x2), (3, .ref (ad k3))]) (by omega) dX7_read_130 4 rfl (by decide) rfl ?_
                    refine x_wrapl ?_
                    intro z1179 bz1179 ew1179
                    replace hF := hF.to (rdb_e (z := z1179) ew1179.symm)
                    refine x_aload_n C.1 dX7_read_133 8 rfl ?_
                    refine x_iload C.1 dX7_read_134 0 rfl ?_
                    refine x_iload_n C.1 dX7_read_136 9 rfl ?_
                    refine x_callSi C (As := [.ref (ad 58), vI z1179, vI x2]) (rest := []) (s_signAt l D cy ad G V926 J Rr hI926 hJ hR z1179 ⟨by omega, by omega⟩ x2 ⟨by omega, by omega⟩) (l1 := []) (l2 := []) (List.append_nil _).symm (w2 := fun _ => XW cy ad V926 J Rr) (fun _ => List.append_nil _) rfl wm_yX7_signAt wn_X7 wl_X7_19 wi_yX7_signAt hd_yX7_signAt rfl ⟨Nat.le_of_ble_eq_true rfl, Nat.le_of_ble_eq_true rfl⟩ (Nat.le_of_ble_eq_true rfl) ⟨Nat.le_of_ble_eq_true rfl, Nat.le_of_ble_eq_true rfl⟩ dX7_read_137 (fun z1180 u1180 bz1180 h1180 => ?_)
                    have hFc1180 := h1180
                    replace hF := calR_i hF hFc1180
                    refine x_istore C.1 (lv' := [(8, vI z1180), (6, vI z1179), (10, vI z1142), (9, vI z1140), (7, vI z922), (5, vI z924), (4, vI z925), (0, .ref (ad 124)), (1, .ref (ad 58)), (2, vI x2), (3, .ref (ad k3))]) dX7_read_140 (by decide) rfl ?_
                    refine x_iload C.1 dX7_read_142 0 rfl ?_
                    refine x_callSi C (As := [vI z1180]) (rest := []) (s_isComer l D cy z1180 ⟨by omega, by omega⟩) (l1 := []) (l2 := _) rfl (w2 := fun _ => _) (fun _ => rfl) rfl wm_yX7_isComer wn_X7 wl_X7_27 wi_yX7_isComer hd_yX7_isComer rfl ⟨Nat.le_of_ble_eq_true rfl, Nat.le_of_ble_eq_true rfl⟩ (Nat.le_of_ble_eq_true rfl) ⟨Nat.le_of_ble_eq_true rfl, Nat.le_of_ble_eq_true rfl⟩ dX7_read_144 (fun z1181 u1181 bz1181 h1181 => ?_)
                    obtain ⟨bq1181, hFc1181⟩ := h1181
                    replace hF := calR_i hF hFc1181
                    replace hF := hF.fc bq1181
                    obtain ⟨jf1183, hjf1183, hF⟩ := jn_ex hF
                    refine x_join (I := fun z1182 : Int => (0 ≤ z1182 ∧ z1182 ≤ 1) ∧ Imp (jf1183 z1182) (f_s_readR x2 k3 V J Rr)) (wsf := fun z1182 : Int => XW cy ad V926 J Rr) (lvf := fun z1182 : Int => [(8, vI z1180), (6, vI z1179), (10, vI z1142), (9, vI z1140), (7, vI z922), (5, vI z924), (4, vI z925), (0, .ref (ad 124)), (1, .ref (ad 58)), (2, vI x2), (3, .ref (ad k3))]) (stf := fun z1182 : Int => [vI z1182]) 155 (fun z1182 hI1183x => ?_) (fun jn1183 => ?_)
                    · obtain ⟨bz1182, hF⟩ := hI1183x
                      try dsimp only
                      replace hF := hF.to (jn_s1 hjf1183)
                      refine x_istore C.1 (lv' := [(10, vI z1182), (8, vI z1180), (6, vI z1179), (9, vI z1140), (7, vI z922), (5, vI z924), (4, vI z925), (0, .ref (ad 124)), (1, .ref (ad 58)), (2, vI x2), (3, .ref (ad k3))]) dX7_read_155 (by decide) rfl ?_
                      refine x_lv [(10, vI z1182), (9, vI z1140), (8, vI z1180), (7, vI z922), (6, vI z1179), (5, vI z924), (4, vI z925), (0, .ref (ad 124)), (1, .ref (ad 58)), (2, vI x2), (3, .ref (ad k3))] [0, 3, 1, 4, 2, 5, 6, 7, 8, 9, 10] rfl ?_
                      exact jn1153 (z1182, z1180, z1179) ⟨⟨by omega, by omega⟩, ⟨by omega, by omega⟩, ⟨by omega, by omega⟩, hF⟩
                    · refine x_if_eq C.1 (tgt := 154) dX7_read_147 (by decide) (by omega) (fun hc1184 => ?_) (fun hc1184 => ?_)
                      · replace hF := hF.to (if_pos hc1184)
                        refine x_iconst C.1 (n := 1) dX7_read_154 ?_
                        exact jn1183 1 ⟨⟨by decide, by decide⟩, hF⟩
                      · replace hF := hF.to (if_neg hc1184)
                        refine x_iconst C.1 (n := 0) dX7_read_150 ?_
                        refine x_goto C.1 (tgt := 155) dX7_read_151 (by decide) ?_
                        exact jn1183 0 ⟨⟨by decide, by decide⟩, hF⟩
            · refine x_icmp_lt C.1 (tgt := 103) dX7_read_85 (by decide) (by omega) (by decide) (fun hc1185 => ?_) (fun hc1185 => ?_)
              · replace hF := hF.to (if_pos hc1185)
                refine x_iconst C.1 (n := 1) dX7_read_103 ?_
                exact jn1141 1 ⟨⟨by decide, by decide⟩, hF⟩
              · replace hF := hF.to (if_neg hc1185)
                refine x_iload C.1 dX7_read_88 0 rfl ?_
                refine x_bipush C.1 (n := 55) dX7_read_90 ?_
                refine x_icmp_gt C.1 (tgt := 103) dX7_read_92 (by decide) (by omega) (by decide) (fun hc1186 => ?_) (fun hc1186 => ?_)
                · replace hF := hF.to (if_pos hc1186)
                  refine x_iconst C.1 (n := 1) dX7_read_103 ?_
                  exact jn1141 1 ⟨⟨by decide, by decide⟩, hF⟩
                · replace hF := hF.to (if_neg hc1186)
                  refine x_iload C.1 dX7_read_95 0 rfl ?_
                  refine x_bipush C.1 (n := 48) dX7_read_97 ?_
                  refine x_isub C.1 (v := z1086 - 48) (by omega) dX7_read_99 ?_
                  refine x_goto C.1 (tgt := 104) dX7_read_100 (by decide) ?_
                  exact jn1141 (z1086 - 48) ⟨⟨by omega, by omega⟩, hF⟩
          · replace hF := hF.to (if_neg (fun hh => hh hc1138))
            refine x_iinc C.1 (v := z925 + 1) (lv' := [(4, vI (z925 + 1)), (8, vI z1086), (7, vI z922), (6, vI z923), (5, vI z924), (0, .ref (ad 124)), (1, .ref (ad 58)), (2, vI x2), (3, .ref (ad k3))]) (by omega) dX7_read_69 4 rfl (by decide) rfl ?_
            refine x_wrapl ?_
            intro z1187 bz1187 ew1187
            replace hF := hF.to (rdb_e (z := z1187) ew1187.symm)
            refine x_iconst C.1 (n := 0) dX7_read_72 ?_
            refine x_istore C.1 (lv' := [(5, vI 0), (4, vI z1187), (8, vI z1086), (7, vI z922), (6, vI z923), (0, .ref (ad 124)), (1, .ref (ad 58)), (2, vI x2), (3, .ref (ad k3))]) dX7_read_73 (by decide) rfl ?_
            refine x_iinc C.1 (v := z923 + 1) (lv' := [(6, vI (z923 + 1)), (5, vI 0), (4, vI z1187), (8, vI z1086), (7, vI z922), (0, .ref (ad 124)), (1, .ref (ad 58)), (2, vI x2), (3, .ref (ad k3))]) (by omega) dX7_read_75 4 rfl (by decide) rfl ?_
            refine x_wrapl ?_
            intro z1188 bz1188 ew1188
            replace hF := hF.to (rdb_e (z := z1188) ew1188.symm)
            refine x_goto C.1 (tgt := 232) dX7_read_78 (by decide) ?_
            refine x_iinc C.1 (v := z922 + 1) (lv' := [(7, vI (z922 + 1)), (6, vI z1188), (5, vI 0), (4, vI z1187), (8, vI z1086), (0, .ref (ad 124)), (1, .ref (ad 58)), (2, vI x2), (3, .ref (ad k3))]) (by omega) dX7_read_232 4 rfl (by decide) rfl ?_
            refine x_goto C.1 (tgt := 17) dX7_read_235 (by decide) ?_
            refine x_lv [(7, vI (z922 + 1)), (6, vI z1188), (5, vI 0), (4, vI z1187), (0, .ref (ad 124)), (1, .ref (ad 58)), (2, vI x2), (3, .ref (ad k3))] [0, 1, 2, 3, 5, 6, 7, 8] rfl ?_
            have hmu926 : (182 - (z922 + 1)).toNat < (182 - z922).toNat := (by omega)
            exact ih926 (z922 + 1, z1188, 0, z1187, V926) ⟨⟨by omega, by omega⟩, ⟨by omega, by omega⟩, ⟨by decide, by decide⟩, ⟨by omega, by omega⟩, hI926, hB926, ⟨nf926, Nat.lt_of_lt_of_le hmu926 (Nat.le_of_lt_succ hn926), hF⟩⟩ hmu926
      · replace hF := hF.to (if_neg (fun hh => hh hc1087))
        refine x_iload C.1 dX7_read_47 0 rfl ?_
        refine x_iconst C.1 (n := -1) dX7_read_49 ?_
        refine x_icmp_ne C.1 (tgt := 55) dX7_read_50 (by decide) (by omega) (by decide) (fun hc1189 => ?_) (fun hc1189 => ?_)
        · replace hF := hF.to (if_pos hc1189)
          refine x_iload C.1 dX7_read_55 3 rfl ?_
          refine x_bipush C.1 (n := 7) dX7_read_57 ?_
          refine x_icmp_ne_f C.1 (tgt := 81) dX7_read_59 (by decide) (by omega) (by decide) (by omega) ?_
          refine x_iload C.1 dX7_read_62 0 rfl ?_
          refine x_bipush C.1 (n := 47) dX7_read_64 ?_
          refine x_icmp_ne C.1 (tgt := 81) dX7_read_66 (by decide) (by omega) (by decide) (fun hc1190 => ?_) (fun hc1190 => ?_)
          · replace hF := hF.to (if_pos hc1190)
            refine x_iload C.1 dX7_read_81 0 rfl ?_
            refine x_bipush C.1 (n := 50) dX7_read_83 ?_
            obtain ⟨jf1193, hjf1193, hF⟩ := jn_ex hF
            refine x_join (I := fun z1192 : Int => (1 ≤ z1192 ∧ z1192 ≤ 7) ∧ Imp (jf1193 z1192) (f_s_readR x2 k3 V J Rr)) (wsf := fun z1192 : Int => XW cy ad V926 J Rr) (lvf := fun z1192 : Int => [(8, vI z1086), (7, vI z922), (6, vI z923), (5, vI z924), (4, vI z925), (0, .ref (ad 124)), (1, .ref (ad 58)), (2, vI x2), (3, .ref (ad k3))]) (stf := fun z1192 : Int => [vI z1192]) 104 (fun z1192 hI1193x => ?_) (fun jn1193 => ?_)
            · obtain ⟨bz1192, hF⟩ := hI1193x
              try dsimp only
              replace hF := hF.to (jn_s1 hjf1193)
              refine x_istore C.1 (lv' := [(9, vI z1192), (8, vI z1086), (7, vI z922), (6, vI z923), (5, vI z924), (4, vI z925), (0, .ref (ad 124)), (1, .ref (ad 58)), (2, vI x2), (3, .ref (ad k3))]) dX7_read_104 (by decide) rfl ?_
              refine x_iload C.1 dX7_read_106 1 rfl ?_
              refine x_iload C.1 dX7_read_108 0 rfl ?_
              refine x_iload C.1 dX7_read_110 5 rfl ?_
              refine x_iload C.1 dX7_read_112 4 rfl ?_
              refine x_callSi C (As := [vI z1086, vI z1192, vI z925, vI z924]) (rest := []) (s_dayFault l D cy z1086 ⟨by omega, by omega⟩ z1192 ⟨by omega, by omega⟩ z925 ⟨by omega, by omega⟩ z924 ⟨by omega, by omega⟩) (l1 := []) (l2 := _) rfl (w2 := fun _ => _) (fun _ => rfl) rfl wm_yX7_dayFault wn_X7 wl_X7_23 wi_yX7_dayFault hd_yX7_dayFault rfl ⟨Nat.le_of_ble_eq_true rfl, Nat.le_of_ble_eq_true rfl⟩ (Nat.le_of_ble_eq_true rfl) ⟨Nat.le_of_ble_eq_true rfl, Nat.le_of_ble_eq_true rfl⟩ dX7_read_114 (fun z1194 u1194 bz1194 h1194 => ?_)
              have hFc1194 := h1194
              replace hF := calR_i hF hFc1194
              refine x_istore C.1 (lv' := [(10, vI z1194), (9, vI z1192), (8, vI z1086), (7, vI z922), (6, vI z923), (5, vI z924), (4, vI z925), (0, .ref (ad 124)), (1, .ref (ad 58)), (2, vI x2), (3, .ref (ad k3))]) dX7_read_117 (by decide) rfl ?_
              refine x_iload C.1 dX7_read_119 0 rfl ?_
              obtain ⟨jf1205, hjf1205, hF⟩ := jn_ex hF
              refine x_join (I := fun x : Int × Int × Int => match x with | (z1202, z1203, z1204) => (-2147483648 ≤ z1202 ∧ z1202 ≤ 2147483647) ∧ (-2147483648 ≤ z1203 ∧ z1203 ≤ 2147483647) ∧ (-2147483648 ≤ z1204 ∧ z1204 ≤ 2147483647) ∧ Imp (jf1205 z1202 z1203 z1204) (f_s_readR x2 k3 V J Rr)) (wsf := fun x : Int × Int × Int => match x with | (z1202, z1203, z1204) => XW cy ad V926 J Rr) (lvf := fun x : Int × Int × Int => match x with | (z1202, z1203, z1204) => [(10, vI z1202), (9, vI z1192), (8, vI z1203), (7, vI z922), (6, vI z1204), (5, vI z924), (4, vI z925), (0, .ref (ad 124)), (1, .ref (ad 58)), (2, vI x2), (3, .ref (ad k3))]) (stf := fun x : Int × Int × Int => match x with | (z1202, z1203, z1204) => []) 157 (fun x hI1205x => ?_) (fun jn1205 => ?_)
              · obtain ⟨z1202, z1203, z1204⟩ := x
                obtain ⟨bz1202, bz1203, bz1204, hF⟩ := hI1205x
                try dsimp only
                replace hF := hF.to (jn_s3 hjf1205)
                refine x_iload C.1 dX7_read_157 0 rfl ?_
                obtain ⟨jf1212, hjf1212, hF⟩ := jn_ex hF
                refine x_join (I := fun z1211 : Int => (-2147483648 ≤ z1211 ∧ z1211 ≤ 2147483647) ∧ Imp (jf1212 z1211) (f_s_readR x2 k3 V J Rr)) (wsf := fun z1211 : Int => XW cy ad V926 J Rr) (lvf := fun z1211 : Int => [(10, vI z1211), (9, vI z1192), (8, vI z1203), (7, vI z922), (6, vI z1204), (5, vI z924), (4, vI z925), (0, .ref (ad 124)), (1, .ref (ad 58)), (2, vI x2), (3, .ref (ad k3))]) (stf := fun z1211 : Int => []) 185 (fun z1211 hI1212x => ?_) (fun jn1212 => ?_)
                · obtain ⟨bz1211, hF⟩ := hI1212x
                  try dsimp only
                  replace hF := hF.to (jn_s1 hjf1212)
                  refine x_iload C.1 dX7_read_185 0 rfl ?_
                  refine x_if_eq C.1 (tgt := 200) dX7_read_187 (by decide) (by omega) (fun hc1213 => ?_) (fun hc1213 => ?_)
                  · replace hF := hF.to (if_pos hc1213)
                    refine x_aload_n C.1 dX7_read_200 7 rfl ?_
                    refine x_iload C.1 dX7_read_201 2 rfl ?_
                    refine x_bipush C.1 (n := 46) dX7_read_203 ?_
                    obtain ⟨jf1216, hjf1216, hF⟩ := jn_ex hF
                    refine x_join (I := fun z1215 : Int => (-2147483648 ≤ z1215 ∧ z1215 ≤ 2147483647) ∧ Imp (jf1216 z1215) (f_s_readR x2 k3 V J Rr)) (wsf := fun z1215 : Int => XW cy ad V926 J Rr) (lvf := fun z1215 : Int => [(10, vI z1211), (9, vI z1192), (8, vI z1203), (7, vI z922), (6, vI z1204), (5, vI z924), (4, vI z925), (0, .ref (ad 124)), (1, .ref (ad 58)), (2, vI x2), (3, .ref (ad k3))]) (stf := fun z1215 : Int => [vI z1215, .ref (ad 124)]) 217 (fun z1215 hI1216x => ?_) (fun jn1216 => ?_)
                    · obtain ⟨bz1215, hF⟩ := hI1216x
                      try dsimp only
                      replace hF := hF.to (jn_s1 hjf1216)
                      refine x_iload C.1 dX7_read_217 1 rfl ?_
                      refine x_callVv C (As := [vI z1215, vI z1192]) (rest := []) 124 (xw_at (N := 129) (i := 124) (by decide) rfl) vc_X7 (s_addR l D cy ad G V926 J Rr hI926 hJ hR z1215 ⟨by omega, by omega⟩ z1192 ⟨by omega, by omega⟩) (l1 := []) (l2 := []) (List.append_nil _).symm (w2 := fun u : Nat → Nat → Int => XW cy ad u J Rr) (fun _ => List.append_nil _) rfl wm_yX7_add wn_X7 wl_X7_36 wi_yX7_add we_yX7_add hd_yX7_add rfl ⟨Nat.le_of_ble_eq_true rfl, Nat.le_of_ble_eq_true rfl⟩ (Nat.le_of_ble_eq_true rfl) ⟨Nat.le_of_ble_eq_true rfl, Nat.le_of_ble_eq_true rfl⟩ dX7_read_219 (fun V1217 h1217 => ?_)
                      obtain ⟨hI1217, hBc1217, hFc1217⟩ := h1217
                      replace hF := calUX_i hF hFc1217 hBc1217
                      have hB1217 := hB926.tr hBc1217 (fun i k h => (h))
                      refine x_iload C.1 dX7_read_222 5 rfl ?_
                      refine x_iload C.1 dX7_read_224 1 rfl ?_
                      refine x_iadd C.1 (v := z924 + z1192) (by omega) dX7_read_226 ?_
                      refine x_istore C.1 (lv' := [(5, vI (z924 + z1192)), (10, vI z1211), (9, vI z1192), (8, vI z1203), (7, vI z922), (6, vI z1204), (4, vI z925), (0, .ref (ad 124)), (1, .ref (ad 58)), (2, vI x2), (3, .ref (ad k3))]) dX7_read_227 (by decide) rfl ?_
                      refine x_iinc C.1 (v := z1204 + 1) (lv' := [(6, vI (z1204 + 1)), (5, vI (z924 + z1192)), (10, vI z1211), (9, vI z1192), (8, vI z1203), (7, vI z922), (4, vI z925), (0, .ref (ad 124)), (1, .ref (ad 58)), (2, vI x2), (3, .ref (ad k3))]) (by omega) dX7_read_229 5 rfl (by decide) rfl ?_
                      refine x_wrapl ?_
                      intro z1218 bz1218 ew1218
                      replace hF := hF.to (rdb_e (z := z1218) ew1218.symm)
                      refine x_iinc C.1 (v := z922 + 1) (lv' := [(7, vI (z922 + 1)), (6, vI z1218), (5, vI (z924 + z1192)), (10, vI z1211), (9, vI z1192), (8, vI z1203), (4, vI z925), (0, .ref (ad 124)), (1, .ref (ad 58)), (2, vI x2), (3, .ref (ad k3))]) (by omega) dX7_read_232 5 rfl (by decide) rfl ?_
                      refine x_goto C.1 (tgt := 17) dX7_read_235 (by decide) ?_
                      refine x_lv [(7, vI (z922 + 1)), (6, vI z1218), (5, vI (z924 + z1192)), (4, vI z925), (0, .ref (ad 124)), (1, .ref (ad 58)), (2, vI x2), (3, .ref (ad k3))] [0, 1, 2, 6, 7, 8, 9, 10] rfl ?_
                      have hmu926 : (182 - (z922 + 1)).toNat < (182 - z922).toNat := (by omega)
                      exact ih926 (z922 + 1, z1218, z924 + z1192, z925, V1217) ⟨⟨by omega, by omega⟩, ⟨by omega, by omega⟩, ⟨by omega, by omega⟩, ⟨by omega, by omega⟩, hI1217, hB1217, ⟨nf926, Nat.lt_of_lt_of_le hmu926 (Nat.le_of_lt_succ hn926), hF⟩⟩ hmu926
                    · refine x_icmp_ne C.1 (tgt := 212) dX7_read_205 (by decide) (by omega) (by decide) (fun hc1219 => ?_) (fun hc1219 => ?_)
                      · replace hF := hF.to (if_pos hc1219)
                        refine x_iload C.1 dX7_read_212 2 rfl ?_
                        refine x_bipush C.1 (n := 97) dX7_read_214 ?_
                        refine x_isub C.1 (v := z1203 - 97) (by omega) dX7_read_216 ?_
                        refine x_wrapg ?_
                        intro z1220 bz1220 ew1220
                        replace hF := hF.to (rdb_e (z := z1220) ew1220.symm)
                        exact jn1216 z1220 ⟨⟨by omega, by omega⟩, hF⟩
                      · replace hF := hF.to (if_neg (fun hh => hh hc1219))
                        refine x_iconst C.1 (n := -1) dX7_read_208 ?_
                        refine x_goto C.1 (tgt := 217) dX7_read_209 (by decide) ?_
                        exact jn1216 ((-1)) ⟨⟨by decide, by decide⟩, hF⟩
                  · replace hF := hF.to (if_neg hc1213)
                    refine x_sipush C.1 (n := -1000) dX7_read_190 ?_
                    refine x_iload C.1 dX7_read_193 0 rfl ?_
                    refine x_imul C.1 (v := (-1000) * z1211) (by omega) dX7_read_195 ?_
                    refine x_wrapg ?_
                    intro z1221 bz1221 ew1221
                    replace hF := hF.to (rdb_e (z := z1221) ew1221.symm)
                    refine x_iload C.1 dX7_read_196 4 rfl ?_
                    refine x_isub C.1 (v := z1221 - z1204) (by omega) dX7_read_198 ?_
                    refine x_wrapg ?_
                    intro z1222 bz1222 ew1222
                    replace hF := hF.to (rdb_e (z := z1222) ew1222.symm)
                    exact x_iret (S := (Nat → Nat → Int)) (post := (fun a (u : Nat → Nat → Int) => XI G u ∧ FB (fun i k : Nat => (124 ≤ i ∧ i ≤ 125)) V u ∧ (f_s_readR x2 k3 V J Rr) (a, u))) (w1 := (fun u : Nat → Nat → Int => XW cy ad u J Rr)) (a := z1222) C hr rfl dX7_read_199 (by omega) V926 rfl ⟨hI926, hB926, hF _ rfl⟩
                · refine x_if_ne C.1 (tgt := 185) dX7_read_159 (by decide) (by omega) (fun hc1223 => ?_) (fun hc1223 => ?_)
                  · replace hF := hF.to (if_pos hc1223)
                    exact jn1212 z1202 ⟨⟨by omega, by omega⟩, hF⟩
                  · replace hF := hF.to (if_neg (fun hh => hh hc1223))
                    refine x_iload C.1 dX7_read_162 2 rfl ?_
                    refine x_bipush C.1 (n := 46) dX7_read_164 ?_
                    refine x_icmp_eq C.1 (tgt := 185) dX7_read_166 (by decide) (by omega) (by decide) (fun hc1224 => ?_) (fun hc1224 => ?_)
                    · replace hF := hF.to (if_pos hc1224)
                      exact jn1212 z1202 ⟨⟨by omega, by omega⟩, hF⟩
                    · replace hF := hF.to (if_neg hc1224)
                      refine x_aload_n C.1 dX7_read_169 10 rfl ?_
                      refine x_iload C.1 dX7_read_170 2 rfl ?_
                      refine x_bipush C.1 (n := 97) dX7_read_172 ?_
                      refine x_isub C.1 (v := z1203 - 97) (by omega) dX7_read_174 ?_
                      refine x_wrapg ?_
                      intro z1225 bz1225 ew1225
                      replace hF := hF.to (rdb_e (z := z1225) ew1225.symm)
                      refine x_callVi C (As := [vI z1225]) (rest := []) k3 (xw_at (N := 129) (i := k3) (by omega) (xd_L hk3)) vc_X3 (s_isPerson l D cy ad G V926 J Rr hI926 hJ hR k3 hk3 z1225 ⟨by omega, by omega⟩) (l1 := []) (l2 := []) (List.append_nil _).symm (w2 := fun _ => XW cy ad V926 J Rr) (fun _ => List.append_nil _) rfl wm_yX3_isPerson wn_X3 wl_X7_31 wi_yX3_isPerson we_yX3_isPerson hd_yX3_isPerson rfl ⟨Nat.le_of_ble_eq_true rfl, Nat.le_of_ble_eq_true rfl⟩ (Nat.le_of_ble_eq_true rfl) ⟨Nat.le_of_ble_eq_true rfl, Nat.le_of_ble_eq_true rfl⟩ dX7_read_175 (fun z1226 u1226 bz1226 h1226 => ?_)
                      obtain ⟨hon1226, hFc1226⟩ := h1226
                      replace hF := calR_i hF hFc1226
                      replace hF := hF.fc hon1226.r
                      have bq1226 := Sp.r hon1226
                      refine x_if_ne C.1 (tgt := 185) dX7_read_178 (by decide) (by omega) (fun hc1227 => ?_) (fun hc1227 => ?_)
                      · replace hF := hF.to (if_pos hc1227)
                        have hon1228 := Sp.on hon1226 (by omega)
                        exact jn1212 z1202 ⟨⟨by omega, by omega⟩, hF⟩
                      · replace hF := hF.to (if_neg (fun hh => hh hc1227))
                        refine x_bipush C.1 (n := 7) dX7_read_181 ?_
                        refine x_istore C.1 (lv' := [(10, vI 7), (9, vI z1192), (8, vI z1203), (7, vI z922), (6, vI z1204), (5, vI z924), (4, vI z925), (0, .ref (ad 124)), (1, .ref (ad 58)), (2, vI x2), (3, .ref (ad k3))]) dX7_read_183 (by decide) rfl ?_
                        exact jn1212 7 ⟨⟨by decide, by decide⟩, hF⟩
              · refine x_if_ne C.1 (tgt := 157) dX7_read_121 (by decide) (by omega) (fun hc1229 => ?_) (fun hc1229 => ?_)
                · replace hF := hF.to (if_pos hc1229)
                  exact jn1205 (z1194, z1086, z923) ⟨⟨by omega, by omega⟩, ⟨by omega, by omega⟩, ⟨by omega, by omega⟩, hF⟩
                · replace hF := hF.to (if_neg (fun hh => hh hc1229))
                  refine x_iload C.1 dX7_read_124 1 rfl ?_
                  refine x_iconst C.1 (n := 1) dX7_read_126 ?_
                  refine x_icmp_le C.1 (tgt := 157) dX7_read_127 (by decide) (by omega) (by decide) (fun hc1230 => ?_) (fun hc1230 => ?_)
                  · replace hF := hF.to (if_pos hc1230)
                    exact jn1205 (z1194, z1086, z923) ⟨⟨by omega, by omega⟩, ⟨by omega, by omega⟩, ⟨by omega, by omega⟩, hF⟩
                  · replace hF := hF.to (if_neg hc1230)
                    refine x_iinc C.1 (v := z923 + 1) (lv' := [(6, vI (z923 + 1)), (10, vI z1194), (9, vI z1192), (8, vI z1086), (7, vI z922), (5, vI z924), (4, vI z925), (0, .ref (ad 124)), (1, .ref (ad 58)), (2, vI x2), (3, .ref (ad k3))]) (by omega) dX7_read_130 4 rfl (by decide) rfl ?_
                    refine x_wrapl ?_
                    intro z1231 bz1231 ew1231
                    replace hF := hF.to (rdb_e (z := z1231) ew1231.symm)
                    refine x_aload_n C.1 dX7_read_133 8 rfl ?_
                    refine x_iload C.1 dX7_read_134 0 rfl ?_
                    refine x_iload_n C.1 dX7_read_136 9 rfl ?_
                    refine x_callSi C (As := [.ref (ad 58), vI z1231, vI x2]) (rest := []) (s_signAt l D cy ad G V926 J Rr hI926 hJ hR z1231 ⟨by omega, by omega⟩ x2 ⟨by omega, by omega⟩) (l1 := []) (l2 := []) (List.append_nil _).symm (w2 := fun _ => XW cy ad V926 J Rr) (fun _ => List.append_nil _) rfl wm_yX7_signAt wn_X7 wl_X7_19 wi_yX7_signAt hd_yX7_signAt rfl ⟨Nat.le_of_ble_eq_true rfl, Nat.le_of_ble_eq_true rfl⟩ (Nat.le_of_ble_eq_true rfl) ⟨Nat.le_of_ble_eq_true rfl, Nat.le_of_ble_eq_true rfl⟩ dX7_read_137 (fun z1232 u1232 bz1232 h1232 => ?_)
                    have hFc1232 := h1232
                    replace hF := calR_i hF hFc1232
                    refine x_istore C.1 (lv' := [(8, vI z1232), (6, vI z1231), (10, vI z1194), (9, vI z1192), (7, vI z922), (5, vI z924), (4, vI z925), (0, .ref (ad 124)), (1, .ref (ad 58)), (2, vI x2), (3, .ref (ad k3))]) dX7_read_140 (by decide) rfl ?_
                    refine x_iload C.1 dX7_read_142 0 rfl ?_
                    refine x_callSi C (As := [vI z1232]) (rest := []) (s_isComer l D cy z1232 ⟨by omega, by omega⟩) (l1 := []) (l2 := _) rfl (w2 := fun _ => _) (fun _ => rfl) rfl wm_yX7_isComer wn_X7 wl_X7_27 wi_yX7_isComer hd_yX7_isComer rfl ⟨Nat.le_of_ble_eq_true rfl, Nat.le_of_ble_eq_true rfl⟩ (Nat.le_of_ble_eq_true rfl) ⟨Nat.le_of_ble_eq_true rfl, Nat.le_of_ble_eq_true rfl⟩ dX7_read_144 (fun z1233 u1233 bz1233 h1233 => ?_)
                    obtain ⟨bq1233, hFc1233⟩ := h1233
                    replace hF := calR_i hF hFc1233
                    replace hF := hF.fc bq1233
                    obtain ⟨jf1235, hjf1235, hF⟩ := jn_ex hF
                    refine x_join (I := fun z1234 : Int => (0 ≤ z1234 ∧ z1234 ≤ 1) ∧ Imp (jf1235 z1234) (f_s_readR x2 k3 V J Rr)) (wsf := fun z1234 : Int => XW cy ad V926 J Rr) (lvf := fun z1234 : Int => [(8, vI z1232), (6, vI z1231), (10, vI z1194), (9, vI z1192), (7, vI z922), (5, vI z924), (4, vI z925), (0, .ref (ad 124)), (1, .ref (ad 58)), (2, vI x2), (3, .ref (ad k3))]) (stf := fun z1234 : Int => [vI z1234]) 155 (fun z1234 hI1235x => ?_) (fun jn1235 => ?_)
                    · obtain ⟨bz1234, hF⟩ := hI1235x
                      try dsimp only
                      replace hF := hF.to (jn_s1 hjf1235)
                      refine x_istore C.1 (lv' := [(10, vI z1234), (8, vI z1232), (6, vI z1231), (9, vI z1192), (7, vI z922), (5, vI z924), (4, vI z925), (0, .ref (ad 124)), (1, .ref (ad 58)), (2, vI x2), (3, .ref (ad k3))]) dX7_read_155 (by decide) rfl ?_
                      refine x_lv [(10, vI z1234), (9, vI z1192), (8, vI z1232), (7, vI z922), (6, vI z1231), (5, vI z924), (4, vI z925), (0, .ref (ad 124)), (1, .ref (ad 58)), (2, vI x2), (3, .ref (ad k3))] [0, 3, 1, 4, 2, 5, 6, 7, 8, 9, 10] rfl ?_
                      exact jn1205 (z1234, z1232, z1231) ⟨⟨by omega, by omega⟩, ⟨by omega, by omega⟩, ⟨by omega, by omega⟩, hF⟩
                    · refine x_if_eq C.1 (tgt := 154) dX7_read_147 (by decide) (by omega) (fun hc1236 => ?_) (fun hc1236 => ?_)
                      · replace hF := hF.to (if_pos hc1236)
                        refine x_iconst C.1 (n := 1) dX7_read_154 ?_
                        exact jn1235 1 ⟨⟨by decide, by decide⟩, hF⟩
                      · replace hF := hF.to (if_neg hc1236)
                        refine x_iconst C.1 (n := 0) dX7_read_150 ?_
                        refine x_goto C.1 (tgt := 155) dX7_read_151 (by decide) ?_
                        exact jn1235 0 ⟨⟨by decide, by decide⟩, hF⟩
            · refine x_icmp_lt C.1 (tgt := 103) dX7_read_85 (by decide) (by omega) (by decide) (fun hc1237 => ?_) (fun hc1237 => ?_)
              · replace hF := hF.to (if_pos hc1237)
                refine x_iconst C.1 (n := 1) dX7_read_103 ?_
                exact jn1193 1 ⟨⟨by decide, by decide⟩, hF⟩
              · replace hF := hF.to (if_neg hc1237)
                refine x_iload C.1 dX7_read_88 0 rfl ?_
                refine x_bipush C.1 (n := 55) dX7_read_90 ?_
                refine x_icmp_gt C.1 (tgt := 103) dX7_read_92 (by decide) (by omega) (by decide) (fun hc1238 => ?_) (fun hc1238 => ?_)
                · replace hF := hF.to (if_pos hc1238)
                  refine x_iconst C.1 (n := 1) dX7_read_103 ?_
                  exact jn1193 1 ⟨⟨by decide, by decide⟩, hF⟩
                · replace hF := hF.to (if_neg hc1238)
                  refine x_iload C.1 dX7_read_95 0 rfl ?_
                  refine x_bipush C.1 (n := 48) dX7_read_97 ?_
                  refine x_isub C.1 (v := z1086 - 48) (by omega) dX7_read_99 ?_
                  refine x_goto C.1 (tgt := 104) dX7_read_100 (by decide) ?_
                  exact jn1193 (z1086 - 48) ⟨⟨by omega, by omega⟩, hF⟩
          · replace hF := hF.to (if_neg (fun hh => hh hc1190))
            refine x_iinc C.1 (v := z925 + 1) (lv' := [(4, vI (z925 + 1)), (8, vI z1086), (7, vI z922), (6, vI z923), (5, vI z924), (0, .ref (ad 124)), (1, .ref (ad 58)), (2, vI x2), (3, .ref (ad k3))]) (by omega) dX7_read_69 4 rfl (by decide) rfl ?_
            refine x_wrapl ?_
            intro z1239 bz1239 ew1239
            replace hF := hF.to (rdb_e (z := z1239) ew1239.symm)
            refine x_iconst C.1 (n := 0) dX7_read_72 ?_
            refine x_istore C.1 (lv' := [(5, vI 0), (4, vI z1239), (8, vI z1086), (7, vI z922), (6, vI z923), (0, .ref (ad 124)), (1, .ref (ad 58)), (2, vI x2), (3, .ref (ad k3))]) dX7_read_73 (by decide) rfl ?_
            refine x_iinc C.1 (v := z923 + 1) (lv' := [(6, vI (z923 + 1)), (5, vI 0), (4, vI z1239), (8, vI z1086), (7, vI z922), (0, .ref (ad 124)), (1, .ref (ad 58)), (2, vI x2), (3, .ref (ad k3))]) (by omega) dX7_read_75 4 rfl (by decide) rfl ?_
            refine x_wrapl ?_
            intro z1240 bz1240 ew1240
            replace hF := hF.to (rdb_e (z := z1240) ew1240.symm)
            refine x_goto C.1 (tgt := 232) dX7_read_78 (by decide) ?_
            refine x_iinc C.1 (v := z922 + 1) (lv' := [(7, vI (z922 + 1)), (6, vI z1240), (5, vI 0), (4, vI z1239), (8, vI z1086), (0, .ref (ad 124)), (1, .ref (ad 58)), (2, vI x2), (3, .ref (ad k3))]) (by omega) dX7_read_232 4 rfl (by decide) rfl ?_
            refine x_goto C.1 (tgt := 17) dX7_read_235 (by decide) ?_
            refine x_lv [(7, vI (z922 + 1)), (6, vI z1240), (5, vI 0), (4, vI z1239), (0, .ref (ad 124)), (1, .ref (ad 58)), (2, vI x2), (3, .ref (ad k3))] [0, 1, 2, 3, 5, 6, 7, 8] rfl ?_
            have hmu926 : (182 - (z922 + 1)).toNat < (182 - z922).toNat := (by omega)
            exact ih926 (z922 + 1, z1240, 0, z1239, V926) ⟨⟨by omega, by omega⟩, ⟨by omega, by omega⟩, ⟨by decide, by decide⟩, ⟨by omega, by omega⟩, hI926, hB926, ⟨nf926, Nat.lt_of_lt_of_le hmu926 (Nat.le_of_lt_succ hn926), hF⟩⟩ hmu926
        · replace hF := hF.to (if_neg (fun hh => hh hc1189))
          refine x_iconst C.1 (n := 0) dX7_read_53 ?_
          exact x_iret (S := (Nat → Nat → Int)) (post := (fun a (u : Nat → Nat → Int) => XI G u ∧ FB (fun i k : Nat => (124 ≤ i ∧ i ≤ 125)) V u ∧ (f_s_readR x2 k3 V J Rr) (a, u))) (w1 := (fun u : Nat → Nat → Int => XW cy ad u J Rr)) (a := 0) C hr rfl dX7_read_54 (by decide) V926 rfl ⟨hI926, hB926, hF _ rfl⟩
theorem dX7_daysOf_0 : decode cX7_daysOf 0 = .ok (.iconst 0, 1) := by decide +kernel
theorem dX7_daysOf_1 : decode cX7_daysOf 1 = .ok (.istore_n 2, 1) := by decide +kernel
theorem dX7_daysOf_2 : decode cX7_daysOf 2 = .ok (.iconst 0, 1) := by decide +kernel
theorem dX7_daysOf_3 : decode cX7_daysOf 3 = .ok (.istore_n 3, 1) := by decide +kernel
theorem dX7_daysOf_4 : decode cX7_daysOf 4 = .ok (.iload_n 3, 1) := by decide +kernel
theorem dX7_daysOf_5 : decode cX7_daysOf 5 = .ok (.aload_n 0, 1) := by decide +kernel
theorem dX7_daysOf_6 : decode cX7_daysOf 6 = .ok (.getfield 15, 3) := by decide +kernel
theorem dX7_daysOf_9 : decode cX7_daysOf 9 = .ok (.if_icmp .ge 33, 3) := by decide +kernel
theorem dX7_daysOf_12 : decode cX7_daysOf 12 = .ok (.iload_n 3, 1) := by decide +kernel
theorem dX7_daysOf_13 : decode cX7_daysOf 13 = .ok (.bipush 84, 2) := by decide +kernel
theorem dX7_daysOf_15 : decode cX7_daysOf 15 = .ok (.if_icmp .ge 27, 3) := by decide +kernel
theorem dX7_daysOf_18 : decode cX7_daysOf 18 = .ok (.iload_n 2, 1) := by decide +kernel
theorem dX7_daysOf_19 : decode cX7_daysOf 19 = .ok (.aload_n 0, 1) := by decide +kernel
theorem dX7_daysOf_20 : decode cX7_daysOf 20 = .ok (.getfield 11, 3) := by decide +kernel
theorem dX7_daysOf_23 : decode cX7_daysOf 23 = .ok (.iload_n 3, 1) := by decide +kernel
theorem dX7_daysOf_24 : decode cX7_daysOf 24 = .ok (.iaload, 1) := by decide +kernel
theorem dX7_daysOf_25 : decode cX7_daysOf 25 = .ok (.iload_n 1, 1) := by decide +kernel
theorem dX7_daysOf_26 : decode cX7_daysOf 26 = .ok (.if_icmp .ne 7, 3) := by decide +kernel
theorem dX7_daysOf_29 : decode cX7_daysOf 29 = .ok (.iconst 1, 1) := by decide +kernel
theorem dX7_daysOf_30 : decode cX7_daysOf 30 = .ok (.goto 4, 3) := by decide +kernel
theorem dX7_daysOf_33 : decode cX7_daysOf 33 = .ok (.iconst 0, 1) := by decide +kernel
theorem dX7_daysOf_34 : decode cX7_daysOf 34 = .ok (.iadd, 1) := by decide +kernel
theorem dX7_daysOf_35 : decode cX7_daysOf 35 = .ok (.istore_n 2, 1) := by decide +kernel
theorem dX7_daysOf_36 : decode cX7_daysOf 36 = .ok (.iinc 3 1, 3) := by decide +kernel
theorem dX7_daysOf_39 : decode cX7_daysOf 39 = .ok (.goto (-35), 3) := by decide +kernel
theorem dX7_daysOf_42 : decode cX7_daysOf 42 = .ok (.iload_n 2, 1) := by decide +kernel
theorem dX7_daysOf_43 : decode cX7_daysOf 43 = .ok (.ireturn, 1) := by decide +kernel
set_option maxRecDepth 100000 in
def f_s_daysOf (x1 : Int) (V : Nat → Nat → Int) (J : Nat → Nat → Int) (Rr : Nat → Nat → Nat) : (Int) → Prop :=
  lop2 (86) (fun rc60 (z58 : Int) (z59 : Int) => rdb (V 124 1) fun z68 => fct (0 ≤ z68 ∧ z68 ≤ 84) <| (if z68 ≤ z58 then rtn z59 else rdb (V 125 z58.toNat) fun z70 => jnk (fun (z71 : Int) => rdb (wr (z59 + z71)) fun z73 => rc60 (z58 + 1) z73) fun jf72 => (if ¬ z70 = x1 then jf72 0 else jf72 1))) 0 0
set_option maxHeartbeats 8000000 in
set_option maxRecDepth 100000 in
theorem s_daysOf (l : Launch) (D : va_G) (cy : Nat → ClassId) (ad : Nat → Nat) (G : Nat → Nat → Int) (V J : Nat → Nat → Int) (Rr : Nat → Nat → Nat) (hI : XI G V) (hJ : VJ J) (hR : XR Rr) (x1 : Int) (bx1 : -2147483648 ≤ x1 ∧ x1 ≤ 2147483647) : xMi l D (xTY cy) yX7_daysOf cX7_daysOf 4 (some .int) 0 0 0 0 [.ref (ad 124), vI x1] (XW cy ad V J Rr) (fun _ : Unit => XW cy ad V J Rr) (fun a (u : Unit) => (f_s_daysOf x1 V J Rr) a) := by
  refine xMi.mk (lv0 := [(0, .ref (ad 124)), (1, vI x1)]) (by decide) rfl (Nat.le_of_ble_eq_true rfl) (fun p e s m below meth c A C hr hnm hAe => ?_)
  have C : xC2 p s m _ meth c D A s.heap 4 cX7_daysOf RX7 (xTY cy) := C
  have hF := Imp.of_eq (f_s_daysOf.eq_def x1 V J Rr)
  refine x_iconst C.1 (n := 0) dX7_daysOf_0 ?_
  refine x_istore_n C.1 (lv' := [(2, vI 0), (0, .ref (ad 124)), (1, vI x1)]) dX7_daysOf_1 (by decide) rfl ?_
  refine x_iconst C.1 (n := 0) dX7_daysOf_2 ?_
  refine x_istore_n C.1 (lv' := [(3, vI 0), (2, vI 0), (0, .ref (ad 124)), (1, vI x1)]) dX7_daysOf_3 (by decide) rfl ?_
  obtain ⟨bd60, hbd60, hF⟩ := lop2_ex hF
  refine x_loop (I := fun x : Int × Int => match x with | (z58, z59) => (0 ≤ z58 ∧ z58 ≤ 84) ∧ (-2147483648 ≤ z59 ∧ z59 ≤ 2147483647) ∧ (∃ nf : Nat, (85 - z58).toNat < nf ∧ Imp (lop2 nf bd60 z58 z59) (f_s_daysOf x1 V J Rr))) (μ := fun x : Int × Int => match x with | (z58, z59) => (85 - z58).toNat) (wsf := fun x : Int × Int => match x with | (z58, z59) => XW cy ad V J Rr) (lvf := fun x : Int × Int => match x with | (z58, z59) => [(3, vI z58), (2, vI z59), (0, .ref (ad 124)), (1, vI x1)]) (fun x hI60x ih60 => ?_) (0, 0) ⟨⟨by decide, by decide⟩, ⟨by decide, by decide⟩, ⟨_, (by omega), hF⟩⟩ rfl rfl
  obtain ⟨z58, z59⟩ := x
  obtain ⟨bz58, bz59, nf60, hn60, hF⟩ := hI60x
  try dsimp only
  obtain ⟨nf60, rfl⟩ : ∃ mm, nf60 = mm + 1 := ⟨nf60 - 1, (Nat.succ_pred_eq_of_pos (Nat.lt_of_le_of_lt (Nat.zero_le _) hn60)).symm⟩
  replace hF := hF.to (lop2_s hbd60)
  refine x_iload_n C.1 dX7_daysOf_4 0 rfl ?_
  refine x_aload_n C.1 dX7_daysOf_5 2 rfl ?_
  obtain ⟨z68, ez68, bz68⟩ := hI.rd 124 1 (x := 0) (y := 84) rfl
  replace hF := hF.to (rdb_e (z := z68) ez68)
  replace hF := hF.fc bz68
  refine x_getI C (N := 129) (i := 124) (by decide) rfl vc_X7 wx_X7 1 (by decide) wf_X7_15 rfl dX7_daysOf_6 (a := z68) ez68 ?_
  refine x_icmp_ge C.1 (tgt := 42) dX7_daysOf_9 (by decide) (by omega) (by omega) (fun hc69 => ?_) (fun hc69 => ?_)
  · replace hF := hF.to (if_pos hc69)
    refine x_iload_n C.1 dX7_daysOf_42 1 rfl ?_
    exact x_iret (S := Unit) (post := (fun a (u : Unit) => (f_s_daysOf x1 V J Rr) a)) (w1 := (fun _ : Unit => XW cy ad V J Rr)) (a := z59) C hr rfl dX7_daysOf_43 (by omega) () rfl (hF _ rfl)
  · replace hF := hF.to (if_neg hc69)
    refine x_iload_n C.1 dX7_daysOf_12 0 rfl ?_
    refine x_bipush C.1 (n := 84) dX7_daysOf_13 ?_
    refine x_icmp_ge_f C.1 (tgt := 42) dX7_daysOf_15 (by decide) (by omega) (by decide) (by omega) ?_
    refine x_iload_n C.1 dX7_daysOf_18 1 rfl ?_
    refine x_aload_n C.1 dX7_daysOf_19 2 rfl ?_
    refine x_getA C (N := 129) (i := 124) (by decide) rfl vc_X7 wx_X7 0 (by decide) wf_X7_11 (a := 125) rfl dX7_daysOf_20 ?_
    refine x_iload_n C.1 dX7_daysOf_23 0 rfl ?_
    obtain ⟨z70, ez70, bz70⟩ := hI.rd 125 z58.toNat (x := -2147483648) (y := 2147483647) rfl
    replace hF := hF.to (rdb_e (z := z70) ez70)
    refine x_iald C (N := 129) (i := 125) (q := z58) (by decide) rfl (by omega) (by decide) dX7_daysOf_24 (a := z70) ez70 ?_
    refine x_iload_n C.1 dX7_daysOf_25 3 rfl ?_
    obtain ⟨jf72, hjf72, hF⟩ := jn_ex hF
    refine x_join (I := fun z71 : Int => (0 ≤ z71 ∧ z71 ≤ 1) ∧ Imp (jf72 z71) (f_s_daysOf x1 V J Rr)) (wsf := fun z71 : Int => XW cy ad V J Rr) (lvf := fun z71 : Int => [(3, vI z58), (2, vI z59), (0, .ref (ad 124)), (1, vI x1)]) (stf := fun z71 : Int => [vI z71, vI z59]) 34 (fun z71 hI72x => ?_) (fun jn72 => ?_)
    · obtain ⟨bz71, hF⟩ := hI72x
      try dsimp only
      replace hF := hF.to (jn_s1 hjf72)
      refine x_iadd C.1 (v := z59 + z71) (by omega) dX7_daysOf_34 ?_
      refine x_wrapg ?_
      intro z73 bz73 ew73
      replace hF := hF.to (rdb_e (z := z73) ew73.symm)
      refine x_istore_n C.1 (lv' := [(2, vI z73), (3, vI z58), (0, .ref (ad 124)), (1, vI x1)]) dX7_daysOf_35 (by decide) rfl ?_
      refine x_iinc C.1 (v := z58 + 1) (lv' := [(3, vI (z58 + 1)), (2, vI z73), (0, .ref (ad 124)), (1, vI x1)]) (by omega) dX7_daysOf_36 1 rfl (by decide) rfl ?_
      refine x_goto C.1 (tgt := 4) dX7_daysOf_39 (by decide) ?_
      have hmu60 : (85 - (z58 + 1)).toNat < (85 - z58).toNat := (by omega)
      exact ih60 (z58 + 1, z73) ⟨⟨by omega, by omega⟩, ⟨by omega, by omega⟩, ⟨nf60, Nat.lt_of_lt_of_le hmu60 (Nat.le_of_lt_succ hn60), hF⟩⟩ hmu60
    · refine x_icmp_ne C.1 (tgt := 33) dX7_daysOf_26 (by decide) (by omega) (by omega) (fun hc74 => ?_) (fun hc74 => ?_)
      · replace hF := hF.to (if_pos hc74)
        refine x_iconst C.1 (n := 0) dX7_daysOf_33 ?_
        exact jn72 0 ⟨⟨by decide, by decide⟩, hF⟩
      · replace hF := hF.to (if_neg (fun hh => hh hc74))
        refine x_iconst C.1 (n := 1) dX7_daysOf_29 ?_
        refine x_goto C.1 (tgt := 34) dX7_daysOf_30 (by decide) ?_
        exact jn72 1 ⟨⟨by decide, by decide⟩, hF⟩
theorem dX7_walk_0 : decode cX7_walk 0 = .ok (.iconst 0, 1) := by decide +kernel
theorem dX7_walk_1 : decode cX7_walk 1 = .ok (.istore 4, 2) := by decide +kernel
theorem dX7_walk_3 : decode cX7_walk 3 = .ok (.iload 4, 2) := by decide +kernel
theorem dX7_walk_5 : decode cX7_walk 5 = .ok (.aload_n 0, 1) := by decide +kernel
theorem dX7_walk_6 : decode cX7_walk 6 = .ok (.getfield 15, 3) := by decide +kernel
theorem dX7_walk_9 : decode cX7_walk 9 = .ok (.if_icmp .ge 73, 3) := by decide +kernel
theorem dX7_walk_12 : decode cX7_walk 12 = .ok (.iload 4, 2) := by decide +kernel
theorem dX7_walk_14 : decode cX7_walk 14 = .ok (.bipush 84, 2) := by decide +kernel
theorem dX7_walk_16 : decode cX7_walk 16 = .ok (.if_icmp .ge 66, 3) := by decide +kernel
theorem dX7_walk_19 : decode cX7_walk 19 = .ok (.aload_n 1, 1) := by decide +kernel
theorem dX7_walk_20 : decode cX7_walk 20 = .ok (.aload_n 2, 1) := by decide +kernel
theorem dX7_walk_21 : decode cX7_walk 21 = .ok (.aload_n 0, 1) := by decide +kernel
theorem dX7_walk_22 : decode cX7_walk 22 = .ok (.getfield 11, 3) := by decide +kernel
theorem dX7_walk_25 : decode cX7_walk 25 = .ok (.iload 4, 2) := by decide +kernel
theorem dX7_walk_27 : decode cX7_walk 27 = .ok (.iaload, 1) := by decide +kernel
theorem dX7_walk_28 : decode cX7_walk 28 = .ok (.iload_n 3, 1) := by decide +kernel
theorem dX7_walk_29 : decode cX7_walk 29 = .ok (.invokevirtual 46, 3) := by decide +kernel
theorem dX7_walk_32 : decode cX7_walk 32 = .ok (.aload_n 1, 1) := by decide +kernel
theorem dX7_walk_33 : decode cX7_walk 33 = .ok (.aload_n 2, 1) := by decide +kernel
theorem dX7_walk_34 : decode cX7_walk 34 = .ok (.iload_n 3, 1) := by decide +kernel
theorem dX7_walk_35 : decode cX7_walk 35 = .ok (.aload_n 1, 1) := by decide +kernel
theorem dX7_walk_36 : decode cX7_walk 36 = .ok (.invokevirtual 50, 3) := by decide +kernel
theorem dX7_walk_39 : decode cX7_walk 39 = .ok (.iconst 5, 1) := by decide +kernel
theorem dX7_walk_40 : decode cX7_walk 40 = .ok (.if_icmp .ge 7, 3) := by decide +kernel
theorem dX7_walk_43 : decode cX7_walk 43 = .ok (.iconst 1, 1) := by decide +kernel
theorem dX7_walk_44 : decode cX7_walk 44 = .ok (.goto 4, 3) := by decide +kernel
theorem dX7_walk_47 : decode cX7_walk 47 = .ok (.iconst 0, 1) := by decide +kernel
theorem dX7_walk_48 : decode cX7_walk 48 = .ok (.invokevirtual 54, 3) := by decide +kernel
theorem dX7_walk_51 : decode cX7_walk 51 = .ok (.aload_n 1, 1) := by decide +kernel
theorem dX7_walk_52 : decode cX7_walk 52 = .ok (.dup, 1) := by decide +kernel
theorem dX7_walk_53 : decode cX7_walk 53 = .ok (.getfield 58, 3) := by decide +kernel
theorem dX7_walk_56 : decode cX7_walk 56 = .ok (.iconst 1, 1) := by decide +kernel
theorem dX7_walk_57 : decode cX7_walk 57 = .ok (.iadd, 1) := by decide +kernel
theorem dX7_walk_58 : decode cX7_walk 58 = .ok (.putfield 58, 3) := by decide +kernel
theorem dX7_walk_61 : decode cX7_walk 61 = .ok (.aload_n 1, 1) := by decide +kernel
theorem dX7_walk_62 : decode cX7_walk 62 = .ok (.getfield 61, 3) := by decide +kernel
theorem dX7_walk_65 : decode cX7_walk 65 = .ok (.iload_n 3, 1) := by decide +kernel
theorem dX7_walk_66 : decode cX7_walk 66 = .ok (.aaload, 1) := by decide +kernel
theorem dX7_walk_67 : decode cX7_walk 67 = .ok (.invokevirtual 65, 3) := by decide +kernel
theorem dX7_walk_70 : decode cX7_walk 70 = .ok (.ifCond .eq 6, 3) := by decide +kernel
theorem dX7_walk_73 : decode cX7_walk 73 = .ok (.iload 4, 2) := by decide +kernel
theorem dX7_walk_75 : decode cX7_walk 75 = .ok (.ireturn, 1) := by decide +kernel
theorem dX7_walk_76 : decode cX7_walk 76 = .ok (.iinc 4 1, 3) := by decide +kernel
theorem dX7_walk_79 : decode cX7_walk 79 = .ok (.goto (-76), 3) := by decide +kernel
theorem dX7_walk_82 : decode cX7_walk 82 = .ok (.bipush (-2), 2) := by decide +kernel
theorem dX7_walk_84 : decode cX7_walk 84 = .ok (.ireturn, 1) := by decide +kernel
set_option maxRecDepth 100000 in
def f_s_walk (k1 : Nat) (x3 : Int) (V : Nat → Nat → Int) (J : Nat → Nat → Int) (Rr : Nat → Nat → Nat) : (Int × (Nat → Nat → Int)) → Prop :=
  lop2 (86) (fun rc97 (z96 : Int) (V97 : Nat → Nat → Int) => rdb (V97 124 1) fun z113 => fct (0 ≤ z113 ∧ z113 ≤ 84) <| (if z113 ≤ z96 then rtn ((-2), V97) else rdb (V97 125 z96.toNat) fun z115 => calUX (fun i k : Nat => (69 ≤ i ∧ i ≤ 71) ∨ (k1 ≤ i ∧ i ≤ k1 + 18)) V97 (f_s_giveTo k1 z115 x3 V97 J Rr) fun V116 => calVX (fun i k : Nat => (k1 ≤ i ∧ i ≤ k1 + 18)) V116 (f_s_draw k1 V116 J Rr) fun z117 V117 => jnk (fun (z118 : Int) => calUX (fun i k : Nat => (69 ≤ i ∧ i ≤ 71) ∨ (k1 ≤ i ∧ i ≤ k1 + 18)) V117 (f_s_endDay k1 x3 z118 V117 J Rr) fun V120 => rdb (V120 k1 3) fun z121 => rdb (wr (z121 + 1)) fun z122 => rdb (up2 V120 k1 3 z122) fun V123 => rdb (k1 + 3 + 2 * x3.toNat) fun c124 => calR (f_s_isDeadP c124 V123 J Rr) fun z125 => fct (0 ≤ z125 ∧ z125 ≤ 1) <| (if z125 = 0 then rc97 (z96 + 1) V123 else rtn (z96, V123))) fun jf119 => (if 5 ≤ z117 then jf119 0 else jf119 1))) 0 V
set_option maxHeartbeats 8000000 in
set_option maxRecDepth 100000 in
theorem s_walk (l : Launch) (D : va_G) (cy : Nat → ClassId) (ad : Nat → Nat) (G : Nat → Nat → Int) (V J : Nat → Nat → Int) (Rr : Nat → Nat → Nat) (hI : XI G V) (hJ : VJ J) (hR : XR Rr) (k1 : Nat) (hk1 : isLa k1) (x3 : Int) (bx3 : 0 ≤ x3 ∧ x3 ≤ 3) : xMi l D (xTY cy) yX7_walk cX7_walk 5 (some .int) 5 125 0 0 [.ref (ad 124), .ref (ad k1), .ref (ad 60), vI x3] (XW cy ad V J Rr) (fun u : Nat → Nat → Int => XW cy ad u J Rr) (fun a (u : Nat → Nat → Int) => XI G u ∧ FB (fun i k : Nat => (69 ≤ i ∧ i ≤ 71) ∨ (k1 ≤ i ∧ i ≤ k1 + 18)) V u ∧ (f_s_walk k1 x3 V J Rr) (a, u)) := by
  refine xMi.mk (lv0 := [(0, .ref (ad 124)), (1, .ref (ad k1)), (2, .ref (ad 60)), (3, vI x3)]) (by decide) rfl (Nat.le_of_ble_eq_true rfl) (fun p e s m below meth c A C hr hnm hAe => ?_)
  have C : xC2 p s m _ meth c D A s.heap 5 cX7_walk RX7 (xTY cy) := C
  have hB : FB (fun i k : Nat => (69 ≤ i ∧ i ≤ 71) ∨ (k1 ≤ i ∧ i ≤ k1 + 18)) V V := FB.rf _ _
  have hF := Imp.of_eq (f_s_walk.eq_def k1 x3 V J Rr)
  refine x_iconst C.1 (n := 0) dX7_walk_0 ?_
  refine x_istore C.1 (lv' := [(4, vI 0), (0, .ref (ad 124)), (1, .ref (ad k1)), (2, .ref (ad 60)), (3, vI x3)]) dX7_walk_1 (by decide) rfl ?_
  obtain ⟨bd97, hbd97, hF⟩ := lop2_ex hF
  refine x_loop (I := fun x : Int × (Nat → Nat → Int) => match x with | (z96, V97) => (0 ≤ z96 ∧ z96 ≤ 84) ∧ XI G V97 ∧ FB (fun i k : Nat => (69 ≤ i ∧ i ≤ 71) ∨ (k1 ≤ i ∧ i ≤ k1 + 18)) V V97 ∧ (∃ nf : Nat, (85 - z96).toNat < nf ∧ Imp (lop2 nf bd97 z96 V97) (f_s_walk k1 x3 V J Rr))) (μ := fun x : Int × (Nat → Nat → Int) => match x with | (z96, V97) => (85 - z96).toNat) (wsf := fun x : Int × (Nat → Nat → Int) => match x with | (z96, V97) => XW cy ad V97 J Rr) (lvf := fun x : Int × (Nat → Nat → Int) => match x with | (z96, V97) => [(4, vI z96), (0, .ref (ad 124)), (1, .ref (ad k1)), (2, .ref (ad 60)), (3, vI x3)]) (fun x hI97x ih97 => ?_) (0, V) ⟨⟨by decide, by decide⟩, hI, hB, ⟨_, (by omega), hF⟩⟩ rfl rfl
  obtain ⟨z96, V97⟩ := x
  obtain ⟨bz96, hI97, hB97, nf97, hn97, hF⟩ := hI97x
  try dsimp only
  obtain ⟨nf97, rfl⟩ : ∃ mm, nf97 = mm + 1 := ⟨nf97 - 1, (Nat.succ_pred_eq_of_pos (Nat.lt_of_le_of_lt (Nat.zero_le _) hn97)).symm⟩
  replace hF := hF.to (lop2_s hbd97)
  refine x_iload C.1 dX7_walk_3 0 rfl ?_
  refine x_aload_n C.1 dX7_walk_5 1 rfl ?_
  obtain ⟨z113, ez113, bz113⟩ := hI97.rd 124 1 (x := 0) (y := 84) rfl
  replace hF := hF.to (rdb_e (z := z113) ez113)
  replace hF := hF.fc bz113
  refine x_getI C (N := 129) (i := 124) (by decide) rfl vc_X7 wx_X7 1 (by decide) wf_X7_15 rfl dX7_walk_6 (a := z113) ez113 ?_
  refine x_icmp_ge C.1 (tgt := 82) dX7_walk_9 (by decide) (by omega) (by omega) (fun hc114 => ?_) (fun hc114 => ?_)
  · replace hF := hF.to (if_pos hc114)
    refine x_bipush C.1 (n := -2) dX7_walk_82 ?_
    exact x_iret (S := (Nat → Nat → Int)) (post := (fun a (u : Nat → Nat → Int) => XI G u ∧ FB (fun i k : Nat => (69 ≤ i ∧ i ≤ 71) ∨ (k1 ≤ i ∧ i ≤ k1 + 18)) V u ∧ (f_s_walk k1 x3 V J Rr) (a, u))) (w1 := (fun u : Nat → Nat → Int => XW cy ad u J Rr)) (a := (-2)) C hr rfl dX7_walk_84 (by decide) V97 rfl ⟨hI97, hB97, hF _ rfl⟩
  · replace hF := hF.to (if_neg hc114)
    refine x_iload C.1 dX7_walk_12 0 rfl ?_
    refine x_bipush C.1 (n := 84) dX7_walk_14 ?_
    refine x_icmp_ge_f C.1 (tgt := 82) dX7_walk_16 (by decide) (by omega) (by decide) (by omega) ?_
    refine x_aload_n C.1 dX7_walk_19 2 rfl ?_
    refine x_aload_n C.1 dX7_walk_20 3 rfl ?_
    refine x_aload_n C.1 dX7_walk_21 1 rfl ?_
    refine x_getA C (N := 129) (i := 124) (by decide) rfl vc_X7 wx_X7 0 (by decide) wf_X7_11 (a := 125) rfl dX7_walk_22 ?_
    refine x_iload C.1 dX7_walk_25 0 rfl ?_
    obtain ⟨z115, ez115, bz115⟩ := hI97.rd 125 z96.toNat (x := -2147483648) (y := 2147483647) rfl
    replace hF := hF.to (rdb_e (z := z115) ez115)
    refine x_iald C (N := 129) (i := 125) (q := z96) (by decide) rfl (by omega) (by decide) dX7_walk_27 (a := z115) ez115 ?_
    refine x_iload_n C.1 dX7_walk_28 4 rfl ?_
    refine x_callVv C (As := [.ref (ad 60), vI z115, vI x3]) (rest := []) k1 (xw_at (N := 129) (i := k1) (by omega) (xd_L hk1)) vc_X3 (s_giveTo l D cy ad G V97 J Rr hI97 hJ hR k1 hk1 z115 ⟨by omega, by omega⟩ x3 ⟨by omega, by omega⟩) (l1 := []) (l2 := []) (List.append_nil _).symm (w2 := fun u : Nat → Nat → Int => XW cy ad u J Rr) (fun _ => List.append_nil _) rfl wm_yX3_giveTo wn_X3 wl_X7_46 wi_yX3_giveTo we_yX3_giveTo hd_yX3_giveTo rfl ⟨Nat.le_of_ble_eq_true rfl, Nat.le_of_ble_eq_true rfl⟩ (Nat.le_of_ble_eq_true rfl) ⟨Nat.le_of_ble_eq_true rfl, Nat.le_of_ble_eq_true rfl⟩ dX7_walk_29 (fun V116 h116 => ?_)
    obtain ⟨hI116, hBc116, hFc116⟩ := h116
    replace hF := calUX_i hF hFc116 hBc116
    have hB116 := hB97.tr hBc116 (fun i k h => (h.elim (fun h => (Or.inl h)) (fun h => (Or.inr (⟨by omega, by omega⟩)))))
    refine x_aload_n C.1 dX7_walk_32 2 rfl ?_
    refine x_aload_n C.1 dX7_walk_33 3 rfl ?_
    refine x_iload_n C.1 dX7_walk_34 4 rfl ?_
    refine x_aload_n C.1 dX7_walk_35 2 rfl ?_
    refine x_callVi C (As := []) (rest := [vI x3, .ref (ad 60), .ref (ad k1)]) k1 (xw_at (N := 129) (i := k1) (by omega) (xd_L hk1)) vc_X3 (s_draw l D cy ad G V116 J Rr hI116 hJ hR k1 hk1) (l1 := []) (l2 := []) (List.append_nil _).symm (w2 := fun u : Nat → Nat → Int => XW cy ad u J Rr) (fun _ => List.append_nil _) rfl wm_yX3_draw wn_X3 wl_X7_50 wi_yX3_draw we_yX3_draw hd_yX3_draw rfl ⟨Nat.le_of_ble_eq_true rfl, Nat.le_of_ble_eq_true rfl⟩ (Nat.le_of_ble_eq_true rfl) ⟨Nat.le_of_ble_eq_true rfl, Nat.le_of_ble_eq_true rfl⟩ dX7_walk_36 (fun z117 V117 bz117 h117 => ?_)
    obtain ⟨hI117, hBc117, hFc117⟩ := h117
    replace hF := calVX_i hF hFc117 hBc117
    have hB117 := hB116.tr hBc117 (fun i k h => (Or.inr (⟨by omega, by omega⟩)))
    refine x_iconst C.1 (n := 5) dX7_walk_39 ?_
    obtain ⟨jf119, hjf119, hF⟩ := jn_ex hF
    refine x_join (I := fun z118 : Int => (0 ≤ z118 ∧ z118 ≤ 1) ∧ Imp (jf119 z118) (f_s_walk k1 x3 V J Rr)) (wsf := fun z118 : Int => XW cy ad V117 J Rr) (lvf := fun z118 : Int => [(4, vI z96), (0, .ref (ad 124)), (1, .ref (ad k1)), (2, .ref (ad 60)), (3, vI x3)]) (stf := fun z118 : Int => [vI z118, vI x3, .ref (ad 60), .ref (ad k1)]) 48 (fun z118 hI119x => ?_) (fun jn119 => ?_)
    · obtain ⟨bz118, hF⟩ := hI119x
      try dsimp only
      replace hF := hF.to (jn_s1 hjf119)
      refine x_callVv C (As := [.ref (ad 60), vI x3, vI z118]) (rest := []) k1 (xw_at (N := 129) (i := k1) (by omega) (xd_L hk1)) vc_X3 (s_endDay l D cy ad G V117 J Rr hI117 hJ hR k1 hk1 x3 ⟨by omega, by omega⟩ z118 ⟨by omega, by omega⟩) (l1 := []) (l2 := []) (List.append_nil _).symm (w2 := fun u : Nat → Nat → Int => XW cy ad u J Rr) (fun _ => List.append_nil _) rfl wm_yX3_endDay wn_X3 wl_X7_54 wi_yX3_endDay we_yX3_endDay hd_yX3_endDay rfl ⟨Nat.le_of_ble_eq_true rfl, Nat.le_of_ble_eq_true rfl⟩ (Nat.le_of_ble_eq_true rfl) ⟨Nat.le_of_ble_eq_true rfl, Nat.le_of_ble_eq_true rfl⟩ dX7_walk_48 (fun V120 h120 => ?_)
      obtain ⟨hI120, hBc120, hFc120⟩ := h120
      replace hF := calUX_i hF hFc120 hBc120
      have hB120 := hB117.tr hBc120 (fun i k h => (h.elim (fun h => (Or.inl h)) (fun h => (Or.inr (⟨by omega, by omega⟩)))))
      refine x_aload_n C.1 dX7_walk_51 2 rfl ?_
      refine x_dup C.1 dX7_walk_52 rfl ?_
      obtain ⟨z121, ez121, bz121⟩ := hI120.rd k1 3 (x := -2147483648) (y := 2147483647) (rg_L hk1 _)
      replace hF := hF.to (rdb_e (z := z121) ez121)
      refine x_getI C (N := 129) (i := k1) (by omega) (xd_L hk1) vc_X3 wx_X3 3 (by decide) wf_X7_58 rfl dX7_walk_53 (a := z121) ez121 ?_
      refine x_iconst C.1 (n := 1) dX7_walk_56 ?_
      refine x_iadd C.1 (v := z121 + 1) (by omega) dX7_walk_57 ?_
      refine x_wrapg ?_
      intro z122 bz122 ew122
      replace hF := hF.to (rdb_e (z := z122) ew122.symm)
      refine x_putI C (N := 129) (i := k1) (by omega) (xd_L hk1) vc_X3 wx_X3 3 (by decide) wf_X7_58 tyX3 tyX3_ok nmX3 rfl (tyX3_ok 3 (by decide)) rfl dX7_walk_58 rfl rfl ?_
      refine x_gV ?_
      intro V123 hV123
      have hI123 : XI G V123 := hI120.up hV123 (rg_L hk1 _) (by omega) (pr_L hk1 _)
      have hB123 := hB120.up hV123 (Or.inr (⟨Nat.le_refl _, by omega⟩))
      replace hF := hF.to (rdb_e (z := V123) hV123.symm)
      refine x_aload_n C.1 dX7_walk_61 2 rfl ?_
      refine x_getA C (N := 129) (i := k1) (by omega) (xd_L hk1) vc_X3 wx_X3 0 (by decide) wf_X7_61 (a := k1 + 1) rfl dX7_walk_62 ?_
      refine x_iload_n C.1 dX7_walk_65 4 rfl ?_
      obtain ⟨c124, ec124, hc124⟩ : ∃ cx : Nat, k1 + 3 + 2 * x3.toNat = cx ∧ isPl cx := ⟨_, rfl, isPl_L hk1 (by omega)⟩
      replace hF := hF.to (rdb_e (z := c124) ec124)
      refine x_aldS C (N := 129) (i := k1 + 1) (q := x3) (t := 4) rfl (by omega) (xd_La hk1) (by omega) (by decide) dX7_walk_66 (a := c124) ec124 ?_
      refine x_callVi C (As := []) (rest := []) c124 (xw_at (N := 129) (i := c124) (Nat.lt_of_succ_lt hc124.1) hc124.2.1) vc_X5 (s_isDeadP l D cy ad G V123 J Rr hI123 hJ hR c124 hc124) (l1 := []) (l2 := []) (List.append_nil _).symm (w2 := fun _ => XW cy ad V123 J Rr) (fun _ => List.append_nil _) rfl wm_yX5_isDead wn_X5 wl_X7_65 wi_yX5_isDead we_yX5_isDead hd_yX5_isDead rfl ⟨Nat.le_of_ble_eq_true rfl, Nat.le_of_ble_eq_true rfl⟩ (Nat.le_of_ble_eq_true rfl) ⟨Nat.le_of_ble_eq_true rfl, Nat.le_of_ble_eq_true rfl⟩ dX7_walk_67 (fun z125 u125 bz125 h125 => ?_)
      obtain ⟨bq125, hFc125⟩ := h125
      replace hF := calR_i hF hFc125
      replace hF := hF.fc bq125
      refine x_if_eq C.1 (tgt := 76) dX7_walk_70 (by decide) (by omega) (fun hc126 => ?_) (fun hc126 => ?_)
      · replace hF := hF.to (if_pos hc126)
        refine x_iinc C.1 (v := z96 + 1) (lv' := [(4, vI (z96 + 1)), (0, .ref (ad 124)), (1, .ref (ad k1)), (2, .ref (ad 60)), (3, vI x3)]) (by omega) dX7_walk_76 0 rfl (by decide) rfl ?_
        refine x_goto C.1 (tgt := 3) dX7_walk_79 (by decide) ?_
        have hmu97 : (85 - (z96 + 1)).toNat < (85 - z96).toNat := (by omega)
        exact ih97 (z96 + 1, V123) ⟨⟨by omega, by omega⟩, hI123, hB123, ⟨nf97, Nat.lt_of_lt_of_le hmu97 (Nat.le_of_lt_succ hn97), hF⟩⟩ hmu97
      · replace hF := hF.to (if_neg hc126)
        refine x_iload C.1 dX7_walk_73 0 rfl ?_
        exact x_iret (S := (Nat → Nat → Int)) (post := (fun a (u : Nat → Nat → Int) => XI G u ∧ FB (fun i k : Nat => (69 ≤ i ∧ i ≤ 71) ∨ (k1 ≤ i ∧ i ≤ k1 + 18)) V u ∧ (f_s_walk k1 x3 V J Rr) (a, u))) (w1 := (fun u : Nat → Nat → Int => XW cy ad u J Rr)) (a := z96) C hr rfl dX7_walk_75 (by omega) V123 rfl ⟨hI123, hB123, hF _ rfl⟩
    · refine x_icmp_ge C.1 (tgt := 47) dX7_walk_40 (by decide) (by omega) (by decide) (fun hc127 => ?_) (fun hc127 => ?_)
      · replace hF := hF.to (if_pos hc127)
        refine x_iconst C.1 (n := 0) dX7_walk_47 ?_
        exact jn119 0 ⟨⟨by decide, by decide⟩, hF⟩
      · replace hF := hF.to (if_neg hc127)
        refine x_iconst C.1 (n := 1) dX7_walk_43 ?_
        refine x_goto C.1 (tgt := 48) dX7_walk_44 (by decide) ?_
        exact jn119 1 ⟨⟨by decide, by decide⟩, hF⟩
