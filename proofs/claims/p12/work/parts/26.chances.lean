theorem dX2_kindOf_0 : decode cX2_kindOf 0 = .ok (.iload_n 0, 1) := by decide +kernel
theorem dX2_kindOf_1 : decode cX2_kindOf 1 = .ok (.ifCond .le 10, 3) := by decide +kernel
theorem dX2_kindOf_4 : decode cX2_kindOf 4 = .ok (.iload_n 0, 1) := by decide +kernel
theorem dX2_kindOf_5 : decode cX2_kindOf 5 = .ok (.bipush 9, 2) := by decide +kernel
theorem dX2_kindOf_7 : decode cX2_kindOf 7 = .ok (.invokestatic 68, 3) := by decide +kernel
theorem dX2_kindOf_10 : decode cX2_kindOf 10 = .ok (.ireturn, 1) := by decide +kernel
theorem dX2_kindOf_11 : decode cX2_kindOf 11 = .ok (.iload_n 1, 1) := by decide +kernel
theorem dX2_kindOf_12 : decode cX2_kindOf 12 = .ok (.ifCond .le 15, 3) := by decide +kernel
theorem dX2_kindOf_15 : decode cX2_kindOf 15 = .ok (.bipush 9, 2) := by decide +kernel
theorem dX2_kindOf_17 : decode cX2_kindOf 17 = .ok (.iload_n 1, 1) := by decide +kernel
theorem dX2_kindOf_18 : decode cX2_kindOf 18 = .ok (.bipush 9, 2) := by decide +kernel
theorem dX2_kindOf_20 : decode cX2_kindOf 20 = .ok (.invokestatic 68, 3) := by decide +kernel
theorem dX2_kindOf_23 : decode cX2_kindOf 23 = .ok (.iadd, 1) := by decide +kernel
theorem dX2_kindOf_24 : decode cX2_kindOf 24 = .ok (.goto 4, 3) := by decide +kernel
theorem dX2_kindOf_27 : decode cX2_kindOf 27 = .ok (.iconst 0, 1) := by decide +kernel
theorem dX2_kindOf_28 : decode cX2_kindOf 28 = .ok (.ireturn, 1) := by decide +kernel
set_option maxRecDepth 100000 in
def f_s_kindOf (x0 : Int) (x1 : Int) : (Int) → Prop :=
  (if x0 ≤ 0 then (if x1 ≤ 0 then rtn 0 else rdb (min x1 9) fun z3 => fct (1 ≤ z3 ∧ z3 ≤ 9) <| rtn (z3 + 9)) else rdb (min x0 9) fun z4 => fct (1 ≤ z4 ∧ z4 ≤ 9) <| rtn z4)
set_option maxHeartbeats 8000000 in
set_option maxRecDepth 100000 in
theorem s_kindOf (l : Launch) (D : va_G) (cy : Nat → ClassId) (x0 : Int) (bx0 : -2147483648 ≤ x0 ∧ x0 ≤ 2147483647) (x1 : Int) (bx1 : -2147483648 ≤ x1 ∧ x1 ≤ 2147483647) : xMi l D (xTY cy) yX2_kindOf cX2_kindOf 2 (some .int) 1 21 0 0 [vI x0, vI x1] [] (fun _ : Unit => []) (fun a (u : Unit) => (-2147483648 ≤ a ∧ a ≤ 18) ∧ (f_s_kindOf x0 x1) a) := by
  refine xMi.mk (lv0 := [(0, vI x0), (1, vI x1)]) (by decide) rfl (Nat.le_of_ble_eq_true rfl) (fun p e s m below meth c A C hr hnm hAe => ?_)
  have C : xC2 p s m _ meth c D A s.heap 2 cX2_kindOf RX2 (xTY cy) := C
  have hF := Imp.of_eq (f_s_kindOf.eq_def x0 x1)
  refine x_iload_n C.1 dX2_kindOf_0 0 rfl ?_
  refine x_if_le C.1 (tgt := 11) dX2_kindOf_1 (by decide) (by omega) (fun hc1 => ?_) (fun hc1 => ?_)
  · replace hF := hF.to (if_pos hc1)
    refine x_iload_n C.1 dX2_kindOf_11 1 rfl ?_
    refine x_if_le C.1 (tgt := 27) dX2_kindOf_12 (by decide) (by omega) (fun hc2 => ?_) (fun hc2 => ?_)
    · replace hF := hF.to (if_pos hc2)
      refine x_iconst C.1 (n := 0) dX2_kindOf_27 ?_
      exact x_iret (S := Unit) (post := (fun a (u : Unit) => (-2147483648 ≤ a ∧ a ≤ 18) ∧ (f_s_kindOf x0 x1) a)) (w1 := (fun _ : Unit => [])) (a := 0) C hr rfl dX2_kindOf_28 (by decide) () rfl ⟨⟨by decide, by decide⟩, hF _ rfl⟩
    · replace hF := hF.to (if_neg hc2)
      refine x_bipush C.1 (n := 9) dX2_kindOf_15 ?_
      refine x_iload_n C.1 dX2_kindOf_17 1 rfl ?_
      refine x_bipush C.1 (n := 9) dX2_kindOf_18 ?_
      refine x_mmin C wl_X2_68 (by omega) (by decide) dX2_kindOf_20 ⟨Nat.le_of_ble_eq_true rfl, Nat.le_of_ble_eq_true rfl⟩ (Nat.le_of_ble_eq_true rfl) ⟨Nat.le_of_ble_eq_true rfl, Nat.le_of_ble_eq_true rfl⟩ (fun z3 hx3 => ?_)
      have bz3 : 1 ≤ z3 ∧ z3 ≤ 9 := by omega
      replace hF := hF.to (rdb_e (z := z3) (by omega))
      replace hF := hF.fc bz3
      clear hx3
      refine x_iadd C.1 (v := z3 + 9) (by omega) dX2_kindOf_23 ?_
      refine x_goto C.1 (tgt := 28) dX2_kindOf_24 (by decide) ?_
      exact x_iret (S := Unit) (post := (fun a (u : Unit) => (-2147483648 ≤ a ∧ a ≤ 18) ∧ (f_s_kindOf x0 x1) a)) (w1 := (fun _ : Unit => [])) (a := z3 + 9) C hr rfl dX2_kindOf_28 (by omega) () rfl ⟨⟨by omega, by omega⟩, hF _ rfl⟩
  · replace hF := hF.to (if_neg hc1)
    refine x_iload_n C.1 dX2_kindOf_4 0 rfl ?_
    refine x_bipush C.1 (n := 9) dX2_kindOf_5 ?_
    refine x_mmin C wl_X2_68 (by omega) (by decide) dX2_kindOf_7 ⟨Nat.le_of_ble_eq_true rfl, Nat.le_of_ble_eq_true rfl⟩ (Nat.le_of_ble_eq_true rfl) ⟨Nat.le_of_ble_eq_true rfl, Nat.le_of_ble_eq_true rfl⟩ (fun z4 hx4 => ?_)
    have bz4 : 1 ≤ z4 ∧ z4 ≤ 9 := by omega
    replace hF := hF.to (rdb_e (z := z4) (by omega))
    replace hF := hF.fc bz4
    clear hx4
    exact x_iret (S := Unit) (post := (fun a (u : Unit) => (-2147483648 ≤ a ∧ a ≤ 18) ∧ (f_s_kindOf x0 x1) a)) (w1 := (fun _ : Unit => [])) (a := z4) C hr rfl dX2_kindOf_10 (by omega) () rfl ⟨⟨by omega, by omega⟩, hF _ rfl⟩
theorem dX2_stateOf_0 : decode cX2_stateOf 0 = .ok (.iload_n 0, 1) := by decide +kernel
theorem dX2_stateOf_1 : decode cX2_stateOf 1 = .ok (.bipush 25, 2) := by decide +kernel
theorem dX2_stateOf_3 : decode cX2_stateOf 3 = .ok (.imul, 1) := by decide +kernel
theorem dX2_stateOf_4 : decode cX2_stateOf 4 = .ok (.iload_n 1, 1) := by decide +kernel
theorem dX2_stateOf_5 : decode cX2_stateOf 5 = .ok (.iadd, 1) := by decide +kernel
theorem dX2_stateOf_6 : decode cX2_stateOf 6 = .ok (.ireturn, 1) := by decide +kernel
set_option maxRecDepth 100000 in
def f_s_stateOf (x0 : Int) (x1 : Int) : (Int) → Prop :=
  rdb (wr (25 * x0)) fun z1 => rdb (wr (z1 + x1)) fun z2 => rtn z2
set_option maxHeartbeats 8000000 in
set_option maxRecDepth 100000 in
theorem s_stateOf (l : Launch) (D : va_G) (cy : Nat → ClassId) (x0 : Int) (bx0 : -2147483648 ≤ x0 ∧ x0 ≤ 2147483647) (x1 : Int) (bx1 : -2147483648 ≤ x1 ∧ x1 ≤ 2147483647) : xMi l D (xTY cy) yX2_stateOf cX2_stateOf 2 (some .int) 0 0 0 0 [vI x0, vI x1] [] (fun _ : Unit => []) (fun a (u : Unit) => (f_s_stateOf x0 x1) a) := by
  refine xMi.mk (lv0 := [(0, vI x0), (1, vI x1)]) (by decide) rfl (Nat.le_of_ble_eq_true rfl) (fun p e s m below meth c A C hr hnm hAe => ?_)
  have C : xC2 p s m _ meth c D A s.heap 2 cX2_stateOf RX2 (xTY cy) := C
  have hF := Imp.of_eq (f_s_stateOf.eq_def x0 x1)
  refine x_iload_n C.1 dX2_stateOf_0 0 rfl ?_
  refine x_bipush C.1 (n := 25) dX2_stateOf_1 ?_
  refine x_imul C.1 (v := 25 * x0) (by omega) dX2_stateOf_3 ?_
  refine x_wrapg ?_
  intro z1 bz1 ew1
  replace hF := hF.to (rdb_e (z := z1) ew1.symm)
  refine x_iload_n C.1 dX2_stateOf_4 1 rfl ?_
  refine x_iadd C.1 (v := z1 + x1) (by omega) dX2_stateOf_5 ?_
  refine x_wrapg ?_
  intro z2 bz2 ew2
  replace hF := hF.to (rdb_e (z := z2) ew2.symm)
  exact x_iret (S := Unit) (post := (fun a (u : Unit) => (f_s_stateOf x0 x1) a)) (w1 := (fun _ : Unit => [])) (a := z2) C hr rfl dX2_stateOf_6 (by omega) () rfl (hF _ rfl)
theorem dX2_dryOf_0 : decode cX2_dryOf 0 = .ok (.iload_n 0, 1) := by decide +kernel
theorem dX2_dryOf_1 : decode cX2_dryOf 1 = .ok (.bipush 9, 2) := by decide +kernel
theorem dX2_dryOf_3 : decode cX2_dryOf 3 = .ok (.if_icmp .gt 7, 3) := by decide +kernel
theorem dX2_dryOf_6 : decode cX2_dryOf 6 = .ok (.iload_n 0, 1) := by decide +kernel
theorem dX2_dryOf_7 : decode cX2_dryOf 7 = .ok (.goto 4, 3) := by decide +kernel
theorem dX2_dryOf_10 : decode cX2_dryOf 10 = .ok (.iconst 0, 1) := by decide +kernel
theorem dX2_dryOf_11 : decode cX2_dryOf 11 = .ok (.ireturn, 1) := by decide +kernel
set_option maxRecDepth 100000 in
def f_s_dryOf (x0 : Int) : (Int) → Prop :=
  (if 9 < x0 then rtn 0 else rtn x0)
set_option maxHeartbeats 8000000 in
set_option maxRecDepth 100000 in
theorem s_dryOf (l : Launch) (D : va_G) (cy : Nat → ClassId) (x0 : Int) (bx0 : -2147483648 ≤ x0 ∧ x0 ≤ 2147483647) : xMi l D (xTY cy) yX2_dryOf cX2_dryOf 1 (some .int) 0 0 0 0 [vI x0] [] (fun _ : Unit => []) (fun a (u : Unit) => (f_s_dryOf x0) a) := by
  refine xMi.mk (lv0 := [(0, vI x0)]) (by decide) rfl (Nat.le_of_ble_eq_true rfl) (fun p e s m below meth c A C hr hnm hAe => ?_)
  have C : xC2 p s m _ meth c D A s.heap 1 cX2_dryOf RX2 (xTY cy) := C
  have hF := Imp.of_eq (f_s_dryOf.eq_def x0)
  refine x_iload_n C.1 dX2_dryOf_0 0 rfl ?_
  refine x_bipush C.1 (n := 9) dX2_dryOf_1 ?_
  refine x_icmp_gt C.1 (tgt := 10) dX2_dryOf_3 (by decide) (by omega) (by decide) (fun hc1 => ?_) (fun hc1 => ?_)
  · replace hF := hF.to (if_pos hc1)
    refine x_iconst C.1 (n := 0) dX2_dryOf_10 ?_
    exact x_iret (S := Unit) (post := (fun a (u : Unit) => (f_s_dryOf x0) a)) (w1 := (fun _ : Unit => [])) (a := 0) C hr rfl dX2_dryOf_11 (by decide) () rfl (hF _ rfl)
  · replace hF := hF.to (if_neg hc1)
    refine x_iload_n C.1 dX2_dryOf_6 0 rfl ?_
    refine x_goto C.1 (tgt := 11) dX2_dryOf_7 (by decide) ?_
    exact x_iret (S := Unit) (post := (fun a (u : Unit) => (f_s_dryOf x0) a)) (w1 := (fun _ : Unit => [])) (a := x0) C hr rfl dX2_dryOf_11 (by omega) () rfl (hF _ rfl)
theorem dX2_drownedOf_0 : decode cX2_drownedOf 0 = .ok (.iload_n 0, 1) := by decide +kernel
theorem dX2_drownedOf_1 : decode cX2_drownedOf 1 = .ok (.bipush 9, 2) := by decide +kernel
theorem dX2_drownedOf_3 : decode cX2_drownedOf 3 = .ok (.if_icmp .le 10, 3) := by decide +kernel
theorem dX2_drownedOf_6 : decode cX2_drownedOf 6 = .ok (.iload_n 0, 1) := by decide +kernel
theorem dX2_drownedOf_7 : decode cX2_drownedOf 7 = .ok (.bipush 9, 2) := by decide +kernel
theorem dX2_drownedOf_9 : decode cX2_drownedOf 9 = .ok (.isub, 1) := by decide +kernel
theorem dX2_drownedOf_10 : decode cX2_drownedOf 10 = .ok (.goto 4, 3) := by decide +kernel
theorem dX2_drownedOf_13 : decode cX2_drownedOf 13 = .ok (.iconst 0, 1) := by decide +kernel
theorem dX2_drownedOf_14 : decode cX2_drownedOf 14 = .ok (.ireturn, 1) := by decide +kernel
set_option maxRecDepth 100000 in
def f_s_drownedOf (x0 : Int) : (Int) → Prop :=
  (if x0 ≤ 9 then rtn 0 else rtn (x0 - 9))
set_option maxHeartbeats 8000000 in
set_option maxRecDepth 100000 in
theorem s_drownedOf (l : Launch) (D : va_G) (cy : Nat → ClassId) (x0 : Int) (bx0 : -2147483648 ≤ x0 ∧ x0 ≤ 2147483647) : xMi l D (xTY cy) yX2_drownedOf cX2_drownedOf 1 (some .int) 0 0 0 0 [vI x0] [] (fun _ : Unit => []) (fun a (u : Unit) => (f_s_drownedOf x0) a) := by
  refine xMi.mk (lv0 := [(0, vI x0)]) (by decide) rfl (Nat.le_of_ble_eq_true rfl) (fun p e s m below meth c A C hr hnm hAe => ?_)
  have C : xC2 p s m _ meth c D A s.heap 1 cX2_drownedOf RX2 (xTY cy) := C
  have hF := Imp.of_eq (f_s_drownedOf.eq_def x0)
  refine x_iload_n C.1 dX2_drownedOf_0 0 rfl ?_
  refine x_bipush C.1 (n := 9) dX2_drownedOf_1 ?_
  refine x_icmp_le C.1 (tgt := 13) dX2_drownedOf_3 (by decide) (by omega) (by decide) (fun hc1 => ?_) (fun hc1 => ?_)
  · replace hF := hF.to (if_pos hc1)
    refine x_iconst C.1 (n := 0) dX2_drownedOf_13 ?_
    exact x_iret (S := Unit) (post := (fun a (u : Unit) => (f_s_drownedOf x0) a)) (w1 := (fun _ : Unit => [])) (a := 0) C hr rfl dX2_drownedOf_14 (by decide) () rfl (hF _ rfl)
  · replace hF := hF.to (if_neg hc1)
    refine x_iload_n C.1 dX2_drownedOf_6 0 rfl ?_
    refine x_bipush C.1 (n := 9) dX2_drownedOf_7 ?_
    refine x_isub C.1 (v := x0 - 9) (by omega) dX2_drownedOf_9 ?_
    refine x_goto C.1 (tgt := 14) dX2_drownedOf_10 (by decide) ?_
    exact x_iret (S := Unit) (post := (fun a (u : Unit) => (f_s_drownedOf x0) a)) (w1 := (fun _ : Unit => [])) (a := x0 - 9) C hr rfl dX2_drownedOf_14 (by omega) () rfl (hF _ rfl)
theorem hd_yX2_drownedOf : yX2_drownedOf.cls ≠ "java/lang/invoke/MethodHandle" ∧ yX2_drownedOf.cls ≠ "java/lang/invoke/VarHandle" ∧ (parseMethodDescriptor yX2_drownedOf.desc).map (fun d => d.parameters.length) = some 1 := by decide +kernel
theorem hd_yX2_dryOf : yX2_dryOf.cls ≠ "java/lang/invoke/MethodHandle" ∧ yX2_dryOf.cls ≠ "java/lang/invoke/VarHandle" ∧ (parseMethodDescriptor yX2_dryOf.desc).map (fun d => d.parameters.length) = some 1 := by decide +kernel
theorem dX2_isDead_0 : decode cX2_isDead 0 = .ok (.iload_n 1, 1) := by decide +kernel
theorem dX2_isDead_1 : decode cX2_isDead 1 = .ok (.invokestatic 97, 3) := by decide +kernel
theorem dX2_isDead_4 : decode cX2_isDead 4 = .ok (.iload_n 1, 1) := by decide +kernel
theorem dX2_isDead_5 : decode cX2_isDead 5 = .ok (.invokestatic 101, 3) := by decide +kernel
theorem dX2_isDead_8 : decode cX2_isDead 8 = .ok (.invokestatic 91, 3) := by decide +kernel
theorem dX2_isDead_11 : decode cX2_isDead 11 = .ok (.aload_n 0, 1) := by decide +kernel
theorem dX2_isDead_12 : decode cX2_isDead 12 = .ok (.getfield 54, 3) := by decide +kernel
theorem dX2_isDead_15 : decode cX2_isDead 15 = .ok (.if_icmp .lt 7, 3) := by decide +kernel
theorem dX2_isDead_18 : decode cX2_isDead 18 = .ok (.iconst 1, 1) := by decide +kernel
theorem dX2_isDead_19 : decode cX2_isDead 19 = .ok (.goto 4, 3) := by decide +kernel
theorem dX2_isDead_22 : decode cX2_isDead 22 = .ok (.iconst 0, 1) := by decide +kernel
theorem dX2_isDead_23 : decode cX2_isDead 23 = .ok (.ireturn, 1) := by decide +kernel
set_option maxRecDepth 100000 in
def f_s_isDeadC (x1 : Int) (V : Nat → Nat → Int) (J : Nat → Nat → Int) (Rr : Nat → Nat → Nat) : (Int) → Prop :=
  calR (f_s_dryOf x1) fun z1 => calR (f_s_drownedOf x1) fun z2 => rdb (max z1 z2) fun z3 => rdb (V 98 13) fun z4 => (if z3 < z4 then rtn 0 else rtn 1)
set_option maxHeartbeats 8000000 in
set_option maxRecDepth 100000 in
theorem s_isDeadC (l : Launch) (D : va_G) (cy : Nat → ClassId) (ad : Nat → Nat) (G : Nat → Nat → Int) (V J : Nat → Nat → Int) (Rr : Nat → Nat → Nat) (hI : XI G V) (hJ : VJ J) (hR : XR Rr) (x1 : Int) (bx1 : -2147483648 ≤ x1 ∧ x1 ≤ 2147483647) : xMi l D (xTY cy) yX2_isDead cX2_isDead 2 (some .boolean) 1 21 0 0 [.ref (ad 98), vI x1] (XW cy ad V J Rr) (fun _ : Unit => XW cy ad V J Rr) (fun a (u : Unit) => (0 ≤ a ∧ a ≤ 1) ∧ (f_s_isDeadC x1 V J Rr) a) := by
  refine xMi.mk (lv0 := [(0, .ref (ad 98)), (1, vI x1)]) (by decide) rfl (Nat.le_of_ble_eq_true rfl) (fun p e s m below meth c A C hr hnm hAe => ?_)
  have C : xC2 p s m _ meth c D A s.heap 2 cX2_isDead RX2 (xTY cy) := C
  have hF := Imp.of_eq (f_s_isDeadC.eq_def x1 V J Rr)
  refine x_iload_n C.1 dX2_isDead_0 1 rfl ?_
  refine x_callSi C (As := [vI x1]) (rest := []) (s_dryOf l D cy x1 ⟨by omega, by omega⟩) (l1 := []) (l2 := _) rfl (w2 := fun _ => _) (fun _ => rfl) rfl wm_yX2_dryOf wn_X2 wl_X2_97 wi_yX2_dryOf hd_yX2_dryOf rfl ⟨Nat.le_of_ble_eq_true rfl, Nat.le_of_ble_eq_true rfl⟩ (Nat.le_of_ble_eq_true rfl) ⟨Nat.le_of_ble_eq_true rfl, Nat.le_of_ble_eq_true rfl⟩ dX2_isDead_1 (fun z1 u1 bz1 h1 => ?_)
  have hFc1 := h1
  replace hF := calR_i hF hFc1
  refine x_iload_n C.1 dX2_isDead_4 1 rfl ?_
  refine x_callSi C (As := [vI x1]) (rest := [vI z1]) (s_drownedOf l D cy x1 ⟨by omega, by omega⟩) (l1 := []) (l2 := _) rfl (w2 := fun _ => _) (fun _ => rfl) rfl wm_yX2_drownedOf wn_X2 wl_X2_101 wi_yX2_drownedOf hd_yX2_drownedOf rfl ⟨Nat.le_of_ble_eq_true rfl, Nat.le_of_ble_eq_true rfl⟩ (Nat.le_of_ble_eq_true rfl) ⟨Nat.le_of_ble_eq_true rfl, Nat.le_of_ble_eq_true rfl⟩ dX2_isDead_5 (fun z2 u2 bz2 h2 => ?_)
  have hFc2 := h2
  replace hF := calR_i hF hFc2
  refine x_mmax C wl_X2_91 (by omega) (by omega) dX2_isDead_8 ⟨Nat.le_of_ble_eq_true rfl, Nat.le_of_ble_eq_true rfl⟩ (Nat.le_of_ble_eq_true rfl) ⟨Nat.le_of_ble_eq_true rfl, Nat.le_of_ble_eq_true rfl⟩ (fun z3 hx3 => ?_)
  have bz3 : -2147483648 ≤ z3 ∧ z3 ≤ 2147483647 := by omega
  replace hF := hF.to (rdb_e (z := z3) (by omega))
  clear hx3
  refine x_aload_n C.1 dX2_isDead_11 0 rfl ?_
  obtain ⟨z4, ez4, bz4⟩ := hI.rd 98 13 (x := -2147483648) (y := 2147483647) rfl
  replace hF := hF.to (rdb_e (z := z4) ez4)
  refine x_getI C (N := 129) (i := 98) (by decide) rfl vc_X2 wx_X2 13 (by decide) wf_X2_54 rfl dX2_isDead_12 (a := z4) ez4 ?_
  refine x_icmp_lt C.1 (tgt := 22) dX2_isDead_15 (by decide) (by omega) (by omega) (fun hc5 => ?_) (fun hc5 => ?_)
  · replace hF := hF.to (if_pos hc5)
    refine x_iconst C.1 (n := 0) dX2_isDead_22 ?_
    exact x_zret (S := Unit) (post := (fun a (u : Unit) => (0 ≤ a ∧ a ≤ 1) ∧ (f_s_isDeadC x1 V J Rr) a)) (w1 := (fun _ : Unit => XW cy ad V J Rr)) (a := 0) C hr rfl dX2_isDead_23 (by decide) () rfl ⟨⟨by decide, by decide⟩, hF _ rfl⟩
  · replace hF := hF.to (if_neg hc5)
    refine x_iconst C.1 (n := 1) dX2_isDead_18 ?_
    refine x_goto C.1 (tgt := 23) dX2_isDead_19 (by decide) ?_
    exact x_zret (S := Unit) (post := (fun a (u : Unit) => (0 ≤ a ∧ a ≤ 1) ∧ (f_s_isDeadC x1 V J Rr) a)) (w1 := (fun _ : Unit => XW cy ad V J Rr)) (a := 1) C hr rfl dX2_isDead_23 (by decide) () rfl ⟨⟨by decide, by decide⟩, hF _ rfl⟩
theorem hd_yX2_kindOf : yX2_kindOf.cls ≠ "java/lang/invoke/MethodHandle" ∧ yX2_kindOf.cls ≠ "java/lang/invoke/VarHandle" ∧ (parseMethodDescriptor yX2_kindOf.desc).map (fun d => d.parameters.length) = some 2 := by decide +kernel
theorem hd_yX3_fillLowest : yX3_fillLowest.cls ≠ "java/lang/invoke/MethodHandle" ∧ yX3_fillLowest.cls ≠ "java/lang/invoke/VarHandle" ∧ (parseMethodDescriptor yX3_fillLowest.desc).map (fun d => d.parameters.length) = some 2 := by decide +kernel
theorem dX2_take_0 : decode cX2_take 0 = .ok (.aload_n 1, 1) := by decide +kernel
theorem dX2_take_1 : decode cX2_take 1 = .ok (.getfield 31, 3) := by decide +kernel
theorem dX2_take_4 : decode cX2_take 4 = .ok (.iload_n 2, 1) := by decide +kernel
theorem dX2_take_5 : decode cX2_take 5 = .ok (.aaload, 1) := by decide +kernel
theorem dX2_take_6 : decode cX2_take 6 = .ok (.astore 4, 2) := by decide +kernel
theorem dX2_take_8 : decode cX2_take 8 = .ok (.aload_n 0, 1) := by decide +kernel
theorem dX2_take_9 : decode cX2_take 9 = .ok (.iload_n 2, 1) := by decide +kernel
theorem dX2_take_10 : decode cX2_take 10 = .ok (.putfield 37, 3) := by decide +kernel
theorem dX2_take_13 : decode cX2_take 13 = .ok (.aload_n 0, 1) := by decide +kernel
theorem dX2_take_14 : decode cX2_take 14 = .ok (.aload 4, 2) := by decide +kernel
theorem dX2_take_16 : decode cX2_take 16 = .ok (.getfield 41, 3) := by decide +kernel
theorem dX2_take_19 : decode cX2_take 19 = .ok (.putfield 46, 3) := by decide +kernel
theorem dX2_take_22 : decode cX2_take 22 = .ok (.aload_n 0, 1) := by decide +kernel
theorem dX2_take_23 : decode cX2_take 23 = .ok (.aload 4, 2) := by decide +kernel
theorem dX2_take_25 : decode cX2_take 25 = .ok (.getfield 47, 3) := by decide +kernel
theorem dX2_take_28 : decode cX2_take 28 = .ok (.putfield 50, 3) := by decide +kernel
theorem dX2_take_31 : decode cX2_take 31 = .ok (.aload_n 0, 1) := by decide +kernel
theorem dX2_take_32 : decode cX2_take 32 = .ok (.aload 4, 2) := by decide +kernel
theorem dX2_take_34 : decode cX2_take 34 = .ok (.getfield 51, 3) := by decide +kernel
theorem dX2_take_37 : decode cX2_take 37 = .ok (.putfield 54, 3) := by decide +kernel
theorem dX2_take_40 : decode cX2_take 40 = .ok (.aload_n 0, 1) := by decide +kernel
theorem dX2_take_41 : decode cX2_take 41 = .ok (.aload 4, 2) := by decide +kernel
theorem dX2_take_43 : decode cX2_take 43 = .ok (.getfield 55, 3) := by decide +kernel
theorem dX2_take_46 : decode cX2_take 46 = .ok (.aload 4, 2) := by decide +kernel
theorem dX2_take_48 : decode cX2_take 48 = .ok (.getfield 58, 3) := by decide +kernel
theorem dX2_take_51 : decode cX2_take 51 = .ok (.invokestatic 61, 3) := by decide +kernel
theorem dX2_take_54 : decode cX2_take 54 = .ok (.putfield 65, 3) := by decide +kernel
theorem dX2_take_57 : decode cX2_take 57 = .ok (.aload_n 0, 1) := by decide +kernel
theorem dX2_take_58 : decode cX2_take 58 = .ok (.iload_n 3, 1) := by decide +kernel
theorem dX2_take_59 : decode cX2_take 59 = .ok (.iconst 3, 1) := by decide +kernel
theorem dX2_take_60 : decode cX2_take 60 = .ok (.invokestatic 68, 3) := by decide +kernel
theorem dX2_take_63 : decode cX2_take 63 = .ok (.putfield 73, 3) := by decide +kernel
theorem dX2_take_66 : decode cX2_take 66 = .ok (.aload_n 0, 1) := by decide +kernel
theorem dX2_take_67 : decode cX2_take 67 = .ok (.iconst 0, 1) := by decide +kernel
theorem dX2_take_68 : decode cX2_take 68 = .ok (.putfield 76, 3) := by decide +kernel
theorem dX2_take_71 : decode cX2_take 71 = .ok (.aload_n 1, 1) := by decide +kernel
theorem dX2_take_72 : decode cX2_take 72 = .ok (.aload_n 0, 1) := by decide +kernel
theorem dX2_take_73 : decode cX2_take 73 = .ok (.getfield 73, 3) := by decide +kernel
theorem dX2_take_76 : decode cX2_take 76 = .ok (.aload_n 0, 1) := by decide +kernel
theorem dX2_take_77 : decode cX2_take 77 = .ok (.getfield 25, 3) := by decide +kernel
theorem dX2_take_80 : decode cX2_take 80 = .ok (.invokevirtual 79, 3) := by decide +kernel
theorem dX2_take_83 : decode cX2_take 83 = .ok (.iconst 0, 1) := by decide +kernel
theorem dX2_take_84 : decode cX2_take 84 = .ok (.istore 5, 2) := by decide +kernel
theorem dX2_take_86 : decode cX2_take 86 = .ok (.iload 5, 2) := by decide +kernel
theorem dX2_take_88 : decode cX2_take 88 = .ok (.aload_n 0, 1) := by decide +kernel
theorem dX2_take_89 : decode cX2_take 89 = .ok (.getfield 73, 3) := by decide +kernel
theorem dX2_take_92 : decode cX2_take 92 = .ok (.if_icmp .ge 31, 3) := by decide +kernel
theorem dX2_take_95 : decode cX2_take 95 = .ok (.aload_n 0, 1) := by decide +kernel
theorem dX2_take_96 : decode cX2_take 96 = .ok (.getfield 28, 3) := by decide +kernel
theorem dX2_take_99 : decode cX2_take 99 = .ok (.iload 5, 2) := by decide +kernel
theorem dX2_take_101 : decode cX2_take 101 = .ok (.aload_n 1, 1) := by decide +kernel
theorem dX2_take_102 : decode cX2_take 102 = .ok (.getfield 83, 3) := by decide +kernel
theorem dX2_take_105 : decode cX2_take 105 = .ok (.aload_n 0, 1) := by decide +kernel
theorem dX2_take_106 : decode cX2_take 106 = .ok (.getfield 25, 3) := by decide +kernel
theorem dX2_take_109 : decode cX2_take 109 = .ok (.iload 5, 2) := by decide +kernel
theorem dX2_take_111 : decode cX2_take 111 = .ok (.iaload, 1) := by decide +kernel
theorem dX2_take_112 : decode cX2_take 112 = .ok (.aaload, 1) := by decide +kernel
theorem dX2_take_113 : decode cX2_take 113 = .ok (.getfield 87, 3) := by decide +kernel
theorem dX2_take_116 : decode cX2_take 116 = .ok (.iastore, 1) := by decide +kernel
theorem dX2_take_117 : decode cX2_take 117 = .ok (.iinc 5 1, 3) := by decide +kernel
theorem dX2_take_120 : decode cX2_take 120 = .ok (.goto (-34), 3) := by decide +kernel
theorem dX2_take_123 : decode cX2_take 123 = .ok (.return_, 1) := by decide +kernel
set_option maxRecDepth 100000 in
def f_s_take (k1 : Nat) (x2 : Int) (x3 : Int) (V : Nat → Nat → Int) (J : Nat → Nat → Int) (Rr : Nat → Nat → Nat) : (Nat → Nat → Int) → Prop :=
  rdb (k1 + 3 + 2 * x2.toNat) fun c1 => rdb (up2 V 98 9 x2) fun V2 => rdb (V2 c1 1) fun z3 => rdb (up2 V2 98 10 z3) fun V4 => rdb (V4 c1 2) fun z5 => rdb (up2 V4 98 11 z5) fun V6 => rdb (V6 c1 3) fun z7 => rdb (up2 V6 98 13 z7) fun V8 => rdb (V8 c1 4) fun z9 => rdb (V8 c1 5) fun z10 => calR (f_s_kindOf z9 z10) fun z11 => fct (-2147483648 ≤ z11 ∧ z11 ≤ 18) <| rdb (up2 V8 98 12 z11) fun V12 => rdb (min x3 3) fun z13 => fct (0 ≤ z13 ∧ z13 ≤ 3) <| rdb (up2 V12 98 8 z13) fun V14 => rdb (up2 V14 98 15 0) fun V15 => calUX (fun i k : Nat => (103 ≤ i ∧ i ≤ 103)) V15 (f_s_fillLowest k1 z13 103 V15 J Rr) fun V16 => lop2 (5) (fun rc45 (z44 : Int) (V45 : Nat → Nat → Int) => rdb (V45 98 8) fun z52 => fct (0 ≤ z52 ∧ z52 ≤ 3) <| (if z52 ≤ z44 then rtn V45 else rdb (V45 103 z44.toNat) fun z54 => fct (0 ≤ z54 ∧ z54 ≤ 7) <| rdb (k1 + 11 + 1 * z54.toNat) fun c55 => rdb (V45 c55 1) fun z56 => rdb (up2 V45 104 z44.toNat z56) fun V57 => rc45 (z44 + 1) V57)) 0 V16
set_option maxHeartbeats 8000000 in
set_option maxRecDepth 100000 in
theorem s_take (l : Launch) (D : va_G) (cy : Nat → ClassId) (ad : Nat → Nat) (G : Nat → Nat → Int) (V J : Nat → Nat → Int) (Rr : Nat → Nat → Nat) (hI : XI G V) (hJ : VJ J) (hR : XR Rr) (k1 : Nat) (hk1 : isLa k1) (x2 : Int) (bx2 : 0 ≤ x2 ∧ x2 ≤ 3) (x3 : Int) (bx3 : 0 ≤ x3 ∧ x3 ≤ 3) : xMv l D (xTY cy) yX2_take cX2_take 6 none 2 42 0 0 [.ref (ad 98), .ref (ad k1), vI x2, vI x3] (XW cy ad V J Rr) (fun u : Nat → Nat → Int => XW cy ad u J Rr) (fun u : Nat → Nat → Int => XI G u ∧ FB (fun i k : Nat => (98 ≤ i ∧ i ≤ 104)) V u ∧ (f_s_take k1 x2 x3 V J Rr) u) := by
  refine xMv.mk (lv0 := [(0, .ref (ad 98)), (1, .ref (ad k1)), (2, vI x2), (3, vI x3)]) (by decide) rfl (Nat.le_of_ble_eq_true rfl) (fun p e s m below meth c A C hr hnm hAe => ?_)
  have C : xC2 p s m _ meth c D A s.heap 6 cX2_take RX2 (xTY cy) := C
  have hB : FB (fun i k : Nat => (98 ≤ i ∧ i ≤ 104)) V V := FB.rf _ _
  have hF := Imp.of_eq (f_s_take.eq_def k1 x2 x3 V J Rr)
  refine x_aload_n C.1 dX2_take_0 1 rfl ?_
  refine x_getA C (N := 129) (i := k1) (by omega) (xd_L hk1) vc_X3 wx_X3 0 (by decide) wf_X2_31 (a := k1 + 1) rfl dX2_take_1 ?_
  refine x_iload_n C.1 dX2_take_4 2 rfl ?_
  obtain ⟨c1, ec1, hc1⟩ : ∃ cx : Nat, k1 + 3 + 2 * x2.toNat = cx ∧ isPl cx := ⟨_, rfl, isPl_L hk1 (by omega)⟩
  replace hF := hF.to (rdb_e (z := c1) ec1)
  refine x_aldS C (N := 129) (i := k1 + 1) (q := x2) (t := 4) rfl (by omega) (xd_La hk1) (by omega) (by decide) dX2_take_5 (a := c1) ec1 ?_
  refine x_astore C.1 (lv' := [(4, .ref (ad c1)), (0, .ref (ad 98)), (1, .ref (ad k1)), (2, vI x2), (3, vI x3)]) dX2_take_6 (by decide) rfl ?_
  refine x_aload_n C.1 dX2_take_8 1 rfl ?_
  refine x_iload_n C.1 dX2_take_9 3 rfl ?_
  refine x_putI C (N := 129) (i := 98) (by decide) rfl vc_X2 wx_X2 9 (by decide) wf_X2_37 tyX2 tyX2_ok nmX2 rfl (tyX2_ok 9 (by decide)) rfl dX2_take_10 rfl rfl ?_
  refine x_gV ?_
  intro V2 hV2
  have hI2 : XI G V2 := hI.up hV2 rfl (by omega) rfl
  have hB2 := hB.up hV2 (⟨by decide, by decide⟩)
  replace hF := hF.to (rdb_e (z := V2) hV2.symm)
  refine x_aload_n C.1 dX2_take_13 1 rfl ?_
  refine x_aload C.1 dX2_take_14 0 rfl ?_
  obtain ⟨z3, ez3, bz3⟩ := hI2.rd c1 1 (x := -2147483648) (y := 2147483647) (rg_P hc1 1)
  replace hF := hF.to (rdb_e (z := z3) ez3)
  refine x_getI C (N := 129) (i := c1) (Nat.lt_of_succ_lt hc1.1) hc1.2.1 vc_X5 wx_X5 1 (by decide) wf_X2_41 rfl dX2_take_16 (a := z3) ez3 ?_
  refine x_putI C (N := 129) (i := 98) (by decide) rfl vc_X2 wx_X2 10 (by decide) wf_X2_46 tyX2 tyX2_ok nmX2 rfl (tyX2_ok 10 (by decide)) rfl dX2_take_19 rfl rfl ?_
  refine x_gV ?_
  intro V4 hV4
  have hI4 : XI G V4 := hI2.up hV4 rfl (by omega) rfl
  have hB4 := hB2.up hV4 (⟨by decide, by decide⟩)
  replace hF := hF.to (rdb_e (z := V4) hV4.symm)
  refine x_aload_n C.1 dX2_take_22 1 rfl ?_
  refine x_aload C.1 dX2_take_23 0 rfl ?_
  obtain ⟨z5, ez5, bz5⟩ := hI4.rd c1 2 (x := -2147483648) (y := 2147483647) (rg_P hc1 2)
  replace hF := hF.to (rdb_e (z := z5) ez5)
  refine x_getI C (N := 129) (i := c1) (Nat.lt_of_succ_lt hc1.1) hc1.2.1 vc_X5 wx_X5 2 (by decide) wf_X2_47 rfl dX2_take_25 (a := z5) ez5 ?_
  refine x_putI C (N := 129) (i := 98) (by decide) rfl vc_X2 wx_X2 11 (by decide) wf_X2_50 tyX2 tyX2_ok nmX2 rfl (tyX2_ok 11 (by decide)) rfl dX2_take_28 rfl rfl ?_
  refine x_gV ?_
  intro V6 hV6
  have hI6 : XI G V6 := hI4.up hV6 rfl (by omega) rfl
  have hB6 := hB4.up hV6 (⟨by decide, by decide⟩)
  replace hF := hF.to (rdb_e (z := V6) hV6.symm)
  refine x_aload_n C.1 dX2_take_31 1 rfl ?_
  refine x_aload C.1 dX2_take_32 0 rfl ?_
  obtain ⟨z7, ez7, bz7⟩ := hI6.rd c1 3 (x := -2147483648) (y := 2147483647) (rg_P hc1 3)
  replace hF := hF.to (rdb_e (z := z7) ez7)
  refine x_getI C (N := 129) (i := c1) (Nat.lt_of_succ_lt hc1.1) hc1.2.1 vc_X5 wx_X5 3 (by decide) wf_X2_51 rfl dX2_take_34 (a := z7) ez7 ?_
  refine x_putI C (N := 129) (i := 98) (by decide) rfl vc_X2 wx_X2 13 (by decide) wf_X2_54 tyX2 tyX2_ok nmX2 rfl (tyX2_ok 13 (by decide)) rfl dX2_take_37 rfl rfl ?_
  refine x_gV ?_
  intro V8 hV8
  have hI8 : XI G V8 := hI6.up hV8 rfl (by omega) rfl
  have hB8 := hB6.up hV8 (⟨by decide, by decide⟩)
  replace hF := hF.to (rdb_e (z := V8) hV8.symm)
  refine x_aload_n C.1 dX2_take_40 1 rfl ?_
  refine x_aload C.1 dX2_take_41 0 rfl ?_
  obtain ⟨z9, ez9, bz9⟩ := hI8.rd c1 4 (x := -2147483648) (y := 2147483647) (rg_P hc1 4)
  replace hF := hF.to (rdb_e (z := z9) ez9)
  refine x_getI C (N := 129) (i := c1) (Nat.lt_of_succ_lt hc1.1) hc1.2.1 vc_X5 wx_X5 4 (by decide) wf_X2_55 rfl dX2_take_43 (a := z9) ez9 ?_
  refine x_aload C.1 dX2_take_46 0 rfl ?_
  obtain ⟨z10, ez10, bz10⟩ := hI8.rd c1 5 (x := -2147483648) (y := 2147483647) (rg_P hc1 5)
  replace hF := hF.to (rdb_e (z := z10) ez10)
  refine x_getI C (N := 129) (i := c1) (Nat.lt_of_succ_lt hc1.1) hc1.2.1 vc_X5 wx_X5 5 (by decide) wf_X2_58 rfl dX2_take_48 (a := z10) ez10 ?_
  refine x_callSi C (As := [vI z9, vI z10]) (rest := [.ref (ad 98)]) (s_kindOf l D cy z9 ⟨by omega, by omega⟩ z10 ⟨by omega, by omega⟩) (l1 := []) (l2 := _) rfl (w2 := fun _ => _) (fun _ => rfl) rfl wm_yX2_kindOf wn_X2 wl_X2_61 wi_yX2_kindOf hd_yX2_kindOf rfl ⟨Nat.le_of_ble_eq_true rfl, Nat.le_of_ble_eq_true rfl⟩ (Nat.le_of_ble_eq_true rfl) ⟨Nat.le_of_ble_eq_true rfl, Nat.le_of_ble_eq_true rfl⟩ dX2_take_51 (fun z11 u11 bz11 h11 => ?_)
  obtain ⟨bq11, hFc11⟩ := h11
  replace hF := calR_i hF hFc11
  replace hF := hF.fc bq11
  refine x_putI C (N := 129) (i := 98) (by decide) rfl vc_X2 wx_X2 12 (by decide) wf_X2_65 tyX2 tyX2_ok nmX2 rfl (tyX2_ok 12 (by decide)) rfl dX2_take_54 rfl rfl ?_
  refine x_gV ?_
  intro V12 hV12
  have hI12 : XI G V12 := hI8.up hV12 rfl (by omega) rfl
  have hB12 := hB8.up hV12 (⟨by decide, by decide⟩)
  replace hF := hF.to (rdb_e (z := V12) hV12.symm)
  refine x_aload_n C.1 dX2_take_57 1 rfl ?_
  refine x_iload_n C.1 dX2_take_58 4 rfl ?_
  refine x_iconst C.1 (n := 3) dX2_take_59 ?_
  refine x_mmin C wl_X2_68 (by omega) (by decide) dX2_take_60 ⟨Nat.le_of_ble_eq_true rfl, Nat.le_of_ble_eq_true rfl⟩ (Nat.le_of_ble_eq_true rfl) ⟨Nat.le_of_ble_eq_true rfl, Nat.le_of_ble_eq_true rfl⟩ (fun z13 hx13 => ?_)
  have bz13 : 0 ≤ z13 ∧ z13 ≤ 3 := by omega
  replace hF := hF.to (rdb_e (z := z13) (by omega))
  replace hF := hF.fc bz13
  clear hx13
  refine x_putI C (N := 129) (i := 98) (by decide) rfl vc_X2 wx_X2 8 (by decide) wf_X2_73 tyX2 tyX2_ok nmX2 rfl (tyX2_ok 8 (by decide)) rfl dX2_take_63 rfl rfl ?_
  refine x_gV ?_
  intro V14 hV14
  have hI14 : XI G V14 := hI12.up hV14 rfl (by omega) rfl
  have hB14 := hB12.up hV14 (⟨by decide, by decide⟩)
  replace hF := hF.to (rdb_e (z := V14) hV14.symm)
  refine x_aload_n C.1 dX2_take_66 1 rfl ?_
  refine x_iconst C.1 (n := 0) dX2_take_67 ?_
  refine x_putI C (N := 129) (i := 98) (by decide) rfl vc_X2 wx_X2 15 (by decide) wf_X2_76 tyX2 tyX2_ok nmX2 rfl (tyX2_ok 15 (by decide)) rfl dX2_take_68 rfl rfl ?_
  refine x_gV ?_
  intro V15 hV15
  have hI15 : XI G V15 := hI14.up hV15 rfl (by decide) rfl
  have hB15 := hB14.up hV15 (⟨by decide, by decide⟩)
  replace hF := hF.to (rdb_e (z := V15) hV15.symm)
  refine x_aload_n C.1 dX2_take_71 2 rfl ?_
  refine x_aload_n C.1 dX2_take_72 1 rfl ?_
  refine x_getI C (N := 129) (i := 98) (by decide) rfl vc_X2 wx_X2 8 (by decide) wf_X2_73 rfl dX2_take_73 (a := z13) ((congrFun (congrFun hV15 98) 8).trans ((up2_n _ _ (Or.inr (by decide))).trans ((congrFun (congrFun hV14 98) 8).trans (up2_s _ _ _ _)))) ?_
  refine x_aload_n C.1 dX2_take_76 1 rfl ?_
  refine x_getA C (N := 129) (i := 98) (by decide) rfl vc_X2 wx_X2 6 (by decide) wf_X2_25 (a := 103) rfl dX2_take_77 ?_
  refine x_callVv C (As := [vI z13, .ref (ad 103)]) (rest := []) k1 (xw_at (N := 129) (i := k1) (by omega) (xd_L hk1)) vc_X3 (s_fillLowest l D cy ad G V15 J Rr hI15 hJ hR k1 hk1 z13 ⟨by omega, by omega⟩ 103 (Or.inl rfl)) (l1 := []) (l2 := []) (List.append_nil _).symm (w2 := fun u : Nat → Nat → Int => XW cy ad u J Rr) (fun _ => List.append_nil _) rfl wm_yX3_fillLowest wn_X3 wl_X2_79 wi_yX3_fillLowest we_yX3_fillLowest hd_yX3_fillLowest rfl ⟨Nat.le_of_ble_eq_true rfl, Nat.le_of_ble_eq_true rfl⟩ (Nat.le_of_ble_eq_true rfl) ⟨Nat.le_of_ble_eq_true rfl, Nat.le_of_ble_eq_true rfl⟩ dX2_take_80 (fun V16 h16 => ?_)
  obtain ⟨hI16, hBc16, hFc16⟩ := h16
  replace hF := calUX_i hF hFc16 hBc16
  have hB16 := hB15.tr hBc16 (fun i k h => (⟨by omega, by omega⟩))
  refine x_iconst C.1 (n := 0) dX2_take_83 ?_
  refine x_istore C.1 (lv' := [(5, vI 0), (4, .ref (ad c1)), (0, .ref (ad 98)), (1, .ref (ad k1)), (2, vI x2), (3, vI x3)]) dX2_take_84 (by decide) rfl ?_
  obtain ⟨bd45, hbd45, hF⟩ := lop2_ex hF
  refine x_loop (I := fun x : Int × (Nat → Nat → Int) => match x with | (z44, V45) => (0 ≤ z44 ∧ z44 ≤ 3) ∧ XI G V45 ∧ FB (fun i k : Nat => (98 ≤ i ∧ i ≤ 104)) V V45 ∧ (∃ nf : Nat, (4 - z44).toNat < nf ∧ Imp (lop2 nf bd45 z44 V45) (f_s_take k1 x2 x3 V J Rr))) (μ := fun x : Int × (Nat → Nat → Int) => match x with | (z44, V45) => (4 - z44).toNat) (wsf := fun x : Int × (Nat → Nat → Int) => match x with | (z44, V45) => XW cy ad V45 J Rr) (lvf := fun x : Int × (Nat → Nat → Int) => match x with | (z44, V45) => [(5, vI z44), (4, .ref (ad c1)), (0, .ref (ad 98)), (1, .ref (ad k1)), (2, vI x2), (3, vI x3)]) (fun x hI45x ih45 => ?_) (0, V16) ⟨⟨by decide, by decide⟩, hI16, hB16, ⟨_, (by omega), hF⟩⟩ rfl rfl
  obtain ⟨z44, V45⟩ := x
  obtain ⟨bz44, hI45, hB45, nf45, hn45, hF⟩ := hI45x
  try dsimp only
  obtain ⟨nf45, rfl⟩ : ∃ mm, nf45 = mm + 1 := ⟨nf45 - 1, (Nat.succ_pred_eq_of_pos (Nat.lt_of_le_of_lt (Nat.zero_le _) hn45)).symm⟩
  replace hF := hF.to (lop2_s hbd45)
  refine x_iload C.1 dX2_take_86 0 rfl ?_
  refine x_aload_n C.1 dX2_take_88 2 rfl ?_
  obtain ⟨z52, ez52, bz52⟩ := hI45.rd 98 8 (x := 0) (y := 3) rfl
  replace hF := hF.to (rdb_e (z := z52) ez52)
  replace hF := hF.fc bz52
  refine x_getI C (N := 129) (i := 98) (by decide) rfl vc_X2 wx_X2 8 (by decide) wf_X2_73 rfl dX2_take_89 (a := z52) ez52 ?_
  refine x_icmp_ge C.1 (tgt := 123) dX2_take_92 (by decide) (by omega) (by omega) (fun hc53 => ?_) (fun hc53 => ?_)
  · replace hF := hF.to (if_pos hc53)
    exact x_vret (S := (Nat → Nat → Int)) (post := (fun u : Nat → Nat → Int => XI G u ∧ FB (fun i k : Nat => (98 ≤ i ∧ i ≤ 104)) V u ∧ (f_s_take k1 x2 x3 V J Rr) u)) (w1 := (fun u : Nat → Nat → Int => XW cy ad u J Rr)) C hr rfl dX2_take_123 V45 rfl ⟨hI45, hB45, hF _ rfl⟩
  · replace hF := hF.to (if_neg hc53)
    refine x_aload_n C.1 dX2_take_95 2 rfl ?_
    refine x_getA C (N := 129) (i := 98) (by decide) rfl vc_X2 wx_X2 7 (by decide) wf_X2_28 (a := 104) rfl dX2_take_96 ?_
    refine x_iload C.1 dX2_take_99 0 rfl ?_
    refine x_aload_n C.1 dX2_take_101 3 rfl ?_
    refine x_getA C (N := 129) (i := k1) (by omega) (xd_L hk1) vc_X3 wx_X3 1 (by decide) wf_X2_83 (a := k1 + 2) rfl dX2_take_102 ?_
    refine x_aload_n C.1 dX2_take_105 2 rfl ?_
    refine x_getA C (N := 129) (i := 98) (by decide) rfl vc_X2 wx_X2 6 (by decide) wf_X2_25 (a := 103) rfl dX2_take_106 ?_
    refine x_iload C.1 dX2_take_109 0 rfl ?_
    obtain ⟨z54, ez54, bz54⟩ := hI45.rd 103 z44.toNat (x := 0) (y := 7) rfl
    replace hF := hF.to (rdb_e (z := z54) ez54)
    replace hF := hF.fc bz54
    refine x_iald C (N := 129) (i := 103) (q := z44) (by decide) rfl (by omega) (by decide) dX2_take_111 (a := z54) ez54 ?_
    obtain ⟨c55, ec55, hc55⟩ : ∃ cx : Nat, k1 + 11 + 1 * z54.toNat = cx ∧ isPe cx := ⟨_, rfl, isPe_L hk1 (by omega)⟩
    replace hF := hF.to (rdb_e (z := c55) ec55)
    refine x_aldS C (N := 129) (i := k1 + 2) (q := z54) (t := 5) rfl (by omega) (xd_Lb hk1) (by omega) (by decide) dX2_take_112 (a := c55) ec55 ?_
    obtain ⟨z56, ez56, bz56⟩ := hI45.rd c55 1 (x := -2147483648) (y := 2147483647) (rg_E hc55 1)
    replace hF := hF.to (rdb_e (z := z56) ez56)
    refine x_getI C (N := 129) (i := c55) hc55.1 hc55.2 vc_X4 wx_X4 1 (by decide) wf_X2_87 rfl dX2_take_113 (a := z56) ez56 ?_
    refine x_iast C (N := 129) (i := 104) (q := z44) (a := z56) (by decide) rfl (by omega) (by decide) dX2_take_116 ?_
    refine x_gV ?_
    intro V57 hV57
    have hI57 : XI G V57 := hI45.up hV57 rfl (by omega) rfl
    have hB57 := hB45.up hV57 (⟨by decide, by decide⟩)
    replace hF := hF.to (rdb_e (z := V57) hV57.symm)
    refine x_iinc C.1 (v := z44 + 1) (lv' := [(5, vI (z44 + 1)), (4, .ref (ad c1)), (0, .ref (ad 98)), (1, .ref (ad k1)), (2, vI x2), (3, vI x3)]) (by omega) dX2_take_117 0 rfl (by decide) rfl ?_
    refine x_goto C.1 (tgt := 86) dX2_take_120 (by decide) ?_
    have hmu45 : (4 - (z44 + 1)).toNat < (4 - z44).toNat := (by omega)
    exact ih45 (z44 + 1, V57) ⟨⟨by omega, by omega⟩, hI57, hB57, ⟨nf45, Nat.lt_of_lt_of_le hmu45 (Nat.le_of_lt_succ hn45), hF⟩⟩ hmu45
theorem dX2_ask_0 : decode cX2_ask 0 = .ok (.iconst 0, 1) := by decide +kernel
theorem dX2_ask_1 : decode cX2_ask 1 = .ok (.istore_n 2, 1) := by decide +kernel
theorem dX2_ask_2 : decode cX2_ask 2 = .ok (.iload_n 2, 1) := by decide +kernel
theorem dX2_ask_3 : decode cX2_ask 3 = .ok (.aload_n 0, 1) := by decide +kernel
theorem dX2_ask_4 : decode cX2_ask 4 = .ok (.getfield 73, 3) := by decide +kernel
theorem dX2_ask_7 : decode cX2_ask 7 = .ok (.if_icmp .ge 37, 3) := by decide +kernel
theorem dX2_ask_10 : decode cX2_ask 10 = .ok (.aload_n 0, 1) := by decide +kernel
theorem dX2_ask_11 : decode cX2_ask 11 = .ok (.getfield 28, 3) := by decide +kernel
theorem dX2_ask_14 : decode cX2_ask 14 = .ok (.iload_n 2, 1) := by decide +kernel
theorem dX2_ask_15 : decode cX2_ask 15 = .ok (.iload_n 2, 1) := by decide +kernel
theorem dX2_ask_16 : decode cX2_ask 16 = .ok (.iload_n 1, 1) := by decide +kernel
theorem dX2_ask_17 : decode cX2_ask 17 = .ok (.if_icmp .ne 8, 3) := by decide +kernel
theorem dX2_ask_20 : decode cX2_ask 20 = .ok (.bipush 10, 2) := by decide +kernel
theorem dX2_ask_22 : decode cX2_ask 22 = .ok (.goto 15, 3) := by decide +kernel
theorem dX2_ask_25 : decode cX2_ask 25 = .ok (.iconst 0, 1) := by decide +kernel
theorem dX2_ask_26 : decode cX2_ask 26 = .ok (.aload_n 0, 1) := by decide +kernel
theorem dX2_ask_27 : decode cX2_ask 27 = .ok (.getfield 28, 3) := by decide +kernel
theorem dX2_ask_30 : decode cX2_ask 30 = .ok (.iload_n 2, 1) := by decide +kernel
theorem dX2_ask_31 : decode cX2_ask 31 = .ok (.iaload, 1) := by decide +kernel
theorem dX2_ask_32 : decode cX2_ask 32 = .ok (.iconst 2, 1) := by decide +kernel
theorem dX2_ask_33 : decode cX2_ask 33 = .ok (.isub, 1) := by decide +kernel
theorem dX2_ask_34 : decode cX2_ask 34 = .ok (.invokestatic 91, 3) := by decide +kernel
theorem dX2_ask_37 : decode cX2_ask 37 = .ok (.iastore, 1) := by decide +kernel
theorem dX2_ask_38 : decode cX2_ask 38 = .ok (.iinc 2 1, 3) := by decide +kernel
theorem dX2_ask_41 : decode cX2_ask 41 = .ok (.goto (-39), 3) := by decide +kernel
theorem dX2_ask_44 : decode cX2_ask 44 = .ok (.return_, 1) := by decide +kernel
set_option maxRecDepth 100000 in
def f_s_askC (x1 : Int) (V : Nat → Nat → Int) (J : Nat → Nat → Int) (Rr : Nat → Nat → Nat) : (Nat → Nat → Int) → Prop :=
  lop2 (5) (fun rc53 (z52 : Int) (V53 : Nat → Nat → Int) => rdb (V53 98 8) fun z66 => fct (0 ≤ z66 ∧ z66 ≤ 3) <| (if z66 ≤ z52 then rtn V53 else jnk (fun (z71 : Int) => rdb (up2 V53 104 z52.toNat z71) fun V73 => rc53 (z52 + 1) V73) fun jf72 => (if ¬ z52 = x1 then rdb (V53 104 z52.toNat) fun z75 => rdb (wr (z75 - 2)) fun z76 => rdb (max 0 z76) fun z77 => fct (0 ≤ z77 ∧ z77 ≤ 2147483647) <| jf72 z77 else jf72 10))) 0 V
set_option maxHeartbeats 8000000 in
set_option maxRecDepth 100000 in
theorem s_askC (l : Launch) (D : va_G) (cy : Nat → ClassId) (ad : Nat → Nat) (G : Nat → Nat → Int) (V J : Nat → Nat → Int) (Rr : Nat → Nat → Nat) (hI : XI G V) (hJ : VJ J) (hR : XR Rr) (x1 : Int) (bx1 : -2147483648 ≤ x1 ∧ x1 ≤ 2147483647) : xMv l D (xTY cy) yX2_ask cX2_ask 3 none 1 21 0 0 [.ref (ad 98), vI x1] (XW cy ad V J Rr) (fun u : Nat → Nat → Int => XW cy ad u J Rr) (fun u : Nat → Nat → Int => XI G u ∧ FB (fun i k : Nat => (98 ≤ i ∧ i ≤ 104)) V u ∧ (f_s_askC x1 V J Rr) u) := by
  refine xMv.mk (lv0 := [(0, .ref (ad 98)), (1, vI x1)]) (by decide) rfl (Nat.le_of_ble_eq_true rfl) (fun p e s m below meth c A C hr hnm hAe => ?_)
  have C : xC2 p s m _ meth c D A s.heap 3 cX2_ask RX2 (xTY cy) := C
  have hB : FB (fun i k : Nat => (98 ≤ i ∧ i ≤ 104)) V V := FB.rf _ _
  have hF := Imp.of_eq (f_s_askC.eq_def x1 V J Rr)
  refine x_iconst C.1 (n := 0) dX2_ask_0 ?_
  refine x_istore_n C.1 (lv' := [(2, vI 0), (0, .ref (ad 98)), (1, vI x1)]) dX2_ask_1 (by decide) rfl ?_
  obtain ⟨bd53, hbd53, hF⟩ := lop2_ex hF
  refine x_loop (I := fun x : Int × (Nat → Nat → Int) => match x with | (z52, V53) => (0 ≤ z52 ∧ z52 ≤ 3) ∧ XI G V53 ∧ FB (fun i k : Nat => (98 ≤ i ∧ i ≤ 104)) V V53 ∧ (∃ nf : Nat, (4 - z52).toNat < nf ∧ Imp (lop2 nf bd53 z52 V53) (f_s_askC x1 V J Rr))) (μ := fun x : Int × (Nat → Nat → Int) => match x with | (z52, V53) => (4 - z52).toNat) (wsf := fun x : Int × (Nat → Nat → Int) => match x with | (z52, V53) => XW cy ad V53 J Rr) (lvf := fun x : Int × (Nat → Nat → Int) => match x with | (z52, V53) => [(2, vI z52), (0, .ref (ad 98)), (1, vI x1)]) (fun x hI53x ih53 => ?_) (0, V) ⟨⟨by decide, by decide⟩, hI, hB, ⟨_, (by omega), hF⟩⟩ rfl rfl
  obtain ⟨z52, V53⟩ := x
  obtain ⟨bz52, hI53, hB53, nf53, hn53, hF⟩ := hI53x
  try dsimp only
  obtain ⟨nf53, rfl⟩ : ∃ mm, nf53 = mm + 1 := ⟨nf53 - 1, (Nat.succ_pred_eq_of_pos (Nat.lt_of_le_of_lt (Nat.zero_le _) hn53)).symm⟩
  replace hF := hF.to (lop2_s hbd53)
  refine x_iload_n C.1 dX2_ask_2 0 rfl ?_
  refine x_aload_n C.1 dX2_ask_3 1 rfl ?_
  obtain ⟨z66, ez66, bz66⟩ := hI53.rd 98 8 (x := 0) (y := 3) rfl
  replace hF := hF.to (rdb_e (z := z66) ez66)
  replace hF := hF.fc bz66
  refine x_getI C (N := 129) (i := 98) (by decide) rfl vc_X2 wx_X2 8 (by decide) wf_X2_73 rfl dX2_ask_4 (a := z66) ez66 ?_
  refine x_icmp_ge C.1 (tgt := 44) dX2_ask_7 (by decide) (by omega) (by omega) (fun hc67 => ?_) (fun hc67 => ?_)
  · replace hF := hF.to (if_pos hc67)
    exact x_vret (S := (Nat → Nat → Int)) (post := (fun u : Nat → Nat → Int => XI G u ∧ FB (fun i k : Nat => (98 ≤ i ∧ i ≤ 104)) V u ∧ (f_s_askC x1 V J Rr) u)) (w1 := (fun u : Nat → Nat → Int => XW cy ad u J Rr)) C hr rfl dX2_ask_44 V53 rfl ⟨hI53, hB53, hF _ rfl⟩
  · replace hF := hF.to (if_neg hc67)
    refine x_aload_n C.1 dX2_ask_10 1 rfl ?_
    refine x_getA C (N := 129) (i := 98) (by decide) rfl vc_X2 wx_X2 7 (by decide) wf_X2_28 (a := 104) rfl dX2_ask_11 ?_
    refine x_iload_n C.1 dX2_ask_14 0 rfl ?_
    refine x_iload_n C.1 dX2_ask_15 0 rfl ?_
    refine x_iload_n C.1 dX2_ask_16 2 rfl ?_
    obtain ⟨jf72, hjf72, hF⟩ := jn_ex hF
    refine x_join (I := fun z71 : Int => (0 ≤ z71 ∧ z71 ≤ 2147483647) ∧ Imp (jf72 z71) (f_s_askC x1 V J Rr)) (wsf := fun z71 : Int => XW cy ad V53 J Rr) (lvf := fun z71 : Int => [(2, vI z52), (0, .ref (ad 98)), (1, vI x1)]) (stf := fun z71 : Int => [vI z71, vI z52, .ref (ad 104)]) 37 (fun z71 hI72x => ?_) (fun jn72 => ?_)
    · obtain ⟨bz71, hF⟩ := hI72x
      try dsimp only
      replace hF := hF.to (jn_s1 hjf72)
      refine x_iast C (N := 129) (i := 104) (q := z52) (a := z71) (by decide) rfl (by omega) (by decide) dX2_ask_37 ?_
      refine x_gV ?_
      intro V73 hV73
      have hI73 : XI G V73 := hI53.up hV73 rfl (by omega) rfl
      have hB73 := hB53.up hV73 (⟨by decide, by decide⟩)
      replace hF := hF.to (rdb_e (z := V73) hV73.symm)
      refine x_iinc C.1 (v := z52 + 1) (lv' := [(2, vI (z52 + 1)), (0, .ref (ad 98)), (1, vI x1)]) (by omega) dX2_ask_38 0 rfl (by decide) rfl ?_
      refine x_goto C.1 (tgt := 2) dX2_ask_41 (by decide) ?_
      have hmu53 : (4 - (z52 + 1)).toNat < (4 - z52).toNat := (by omega)
      exact ih53 (z52 + 1, V73) ⟨⟨by omega, by omega⟩, hI73, hB73, ⟨nf53, Nat.lt_of_lt_of_le hmu53 (Nat.le_of_lt_succ hn53), hF⟩⟩ hmu53
    · refine x_icmp_ne C.1 (tgt := 25) dX2_ask_17 (by decide) (by omega) (by omega) (fun hc74 => ?_) (fun hc74 => ?_)
      · replace hF := hF.to (if_pos hc74)
        refine x_iconst C.1 (n := 0) dX2_ask_25 ?_
        refine x_aload_n C.1 dX2_ask_26 1 rfl ?_
        refine x_getA C (N := 129) (i := 98) (by decide) rfl vc_X2 wx_X2 7 (by decide) wf_X2_28 (a := 104) rfl dX2_ask_27 ?_
        refine x_iload_n C.1 dX2_ask_30 0 rfl ?_
        obtain ⟨z75, ez75, bz75⟩ := hI53.rd 104 z52.toNat (x := -2147483648) (y := 2147483647) rfl
        replace hF := hF.to (rdb_e (z := z75) ez75)
        refine x_iald C (N := 129) (i := 104) (q := z52) (by decide) rfl (by omega) (by decide) dX2_ask_31 (a := z75) ez75 ?_
        refine x_iconst C.1 (n := 2) dX2_ask_32 ?_
        refine x_isub C.1 (v := z75 - 2) (by omega) dX2_ask_33 ?_
        refine x_wrapg ?_
        intro z76 bz76 ew76
        replace hF := hF.to (rdb_e (z := z76) ew76.symm)
        refine x_mmax C wl_X2_91 (by decide) (by omega) dX2_ask_34 ⟨Nat.le_of_ble_eq_true rfl, Nat.le_of_ble_eq_true rfl⟩ (Nat.le_of_ble_eq_true rfl) ⟨Nat.le_of_ble_eq_true rfl, Nat.le_of_ble_eq_true rfl⟩ (fun z77 hx77 => ?_)
        have bz77 : 0 ≤ z77 ∧ z77 ≤ 2147483647 := by omega
        replace hF := hF.to (rdb_e (z := z77) (by omega))
        replace hF := hF.fc bz77
        clear hx77
        exact jn72 z77 ⟨⟨by omega, by omega⟩, hF⟩
      · replace hF := hF.to (if_neg (fun hh => hh hc74))
        refine x_bipush C.1 (n := 10) dX2_ask_20 ?_
        refine x_goto C.1 (tgt := 37) dX2_ask_22 (by decide) ?_
        exact jn72 10 ⟨⟨by decide, by decide⟩, hF⟩
theorem dX2_onlyFirst_0 : decode cX2_onlyFirst 0 = .ok (.iload_n 1, 1) := by decide +kernel
theorem dX2_onlyFirst_1 : decode cX2_onlyFirst 1 = .ok (.istore_n 2, 1) := by decide +kernel
theorem dX2_onlyFirst_2 : decode cX2_onlyFirst 2 = .ok (.iload_n 2, 1) := by decide +kernel
theorem dX2_onlyFirst_3 : decode cX2_onlyFirst 3 = .ok (.aload_n 0, 1) := by decide +kernel
theorem dX2_onlyFirst_4 : decode cX2_onlyFirst 4 = .ok (.getfield 73, 3) := by decide +kernel
theorem dX2_onlyFirst_7 : decode cX2_onlyFirst 7 = .ok (.if_icmp .ge 16, 3) := by decide +kernel
theorem dX2_onlyFirst_10 : decode cX2_onlyFirst 10 = .ok (.aload_n 0, 1) := by decide +kernel
theorem dX2_onlyFirst_11 : decode cX2_onlyFirst 11 = .ok (.getfield 28, 3) := by decide +kernel
theorem dX2_onlyFirst_14 : decode cX2_onlyFirst 14 = .ok (.iload_n 2, 1) := by decide +kernel
theorem dX2_onlyFirst_15 : decode cX2_onlyFirst 15 = .ok (.iconst 0, 1) := by decide +kernel
theorem dX2_onlyFirst_16 : decode cX2_onlyFirst 16 = .ok (.iastore, 1) := by decide +kernel
theorem dX2_onlyFirst_17 : decode cX2_onlyFirst 17 = .ok (.iinc 2 1, 3) := by decide +kernel
theorem dX2_onlyFirst_20 : decode cX2_onlyFirst 20 = .ok (.goto (-18), 3) := by decide +kernel
theorem dX2_onlyFirst_23 : decode cX2_onlyFirst 23 = .ok (.return_, 1) := by decide +kernel
set_option maxRecDepth 100000 in
def f_s_onlyFirst (x1 : Int) (V : Nat → Nat → Int) (J : Nat → Nat → Int) (Rr : Nat → Nat → Nat) : (Nat → Nat → Int) → Prop :=
  lop2 (5) (fun rc9 (z8 : Int) (V9 : Nat → Nat → Int) => rdb (V9 98 8) fun z13 => fct (0 ≤ z13 ∧ z13 ≤ 3) <| (if z13 ≤ z8 then rtn V9 else rdb (up2 V9 104 z8.toNat 0) fun V15 => rc9 (z8 + 1) V15)) x1 V
set_option maxHeartbeats 8000000 in
set_option maxRecDepth 100000 in
theorem s_onlyFirst (l : Launch) (D : va_G) (cy : Nat → ClassId) (ad : Nat → Nat) (G : Nat → Nat → Int) (V J : Nat → Nat → Int) (Rr : Nat → Nat → Nat) (hI : XI G V) (hJ : VJ J) (hR : XR Rr) (x1 : Int) (bx1 : 0 ≤ x1 ∧ x1 ≤ 3) : xMv l D (xTY cy) yX2_onlyFirst cX2_onlyFirst 3 none 0 0 0 0 [.ref (ad 98), vI x1] (XW cy ad V J Rr) (fun u : Nat → Nat → Int => XW cy ad u J Rr) (fun u : Nat → Nat → Int => XI G u ∧ FB (fun i k : Nat => (98 ≤ i ∧ i ≤ 104)) V u ∧ (f_s_onlyFirst x1 V J Rr) u) := by
  refine xMv.mk (lv0 := [(0, .ref (ad 98)), (1, vI x1)]) (by decide) rfl (Nat.le_of_ble_eq_true rfl) (fun p e s m below meth c A C hr hnm hAe => ?_)
  have C : xC2 p s m _ meth c D A s.heap 3 cX2_onlyFirst RX2 (xTY cy) := C
  have hB : FB (fun i k : Nat => (98 ≤ i ∧ i ≤ 104)) V V := FB.rf _ _
  have hF := Imp.of_eq (f_s_onlyFirst.eq_def x1 V J Rr)
  refine x_iload_n C.1 dX2_onlyFirst_0 1 rfl ?_
  refine x_istore_n C.1 (lv' := [(2, vI x1), (0, .ref (ad 98)), (1, vI x1)]) dX2_onlyFirst_1 (by decide) rfl ?_
  obtain ⟨bd9, hbd9, hF⟩ := lop2_ex hF
  refine x_loop (I := fun x : Int × (Nat → Nat → Int) => match x with | (z8, V9) => (0 ≤ z8 ∧ z8 ≤ 3) ∧ XI G V9 ∧ FB (fun i k : Nat => (98 ≤ i ∧ i ≤ 104)) V V9 ∧ (∃ nf : Nat, (4 - z8).toNat < nf ∧ Imp (lop2 nf bd9 z8 V9) (f_s_onlyFirst x1 V J Rr))) (μ := fun x : Int × (Nat → Nat → Int) => match x with | (z8, V9) => (4 - z8).toNat) (wsf := fun x : Int × (Nat → Nat → Int) => match x with | (z8, V9) => XW cy ad V9 J Rr) (lvf := fun x : Int × (Nat → Nat → Int) => match x with | (z8, V9) => [(2, vI z8), (0, .ref (ad 98)), (1, vI x1)]) (fun x hI9x ih9 => ?_) (x1, V) ⟨⟨by omega, by omega⟩, hI, hB, ⟨_, (by omega), hF⟩⟩ rfl rfl
  obtain ⟨z8, V9⟩ := x
  obtain ⟨bz8, hI9, hB9, nf9, hn9, hF⟩ := hI9x
  try dsimp only
  obtain ⟨nf9, rfl⟩ : ∃ mm, nf9 = mm + 1 := ⟨nf9 - 1, (Nat.succ_pred_eq_of_pos (Nat.lt_of_le_of_lt (Nat.zero_le _) hn9)).symm⟩
  replace hF := hF.to (lop2_s hbd9)
  refine x_iload_n C.1 dX2_onlyFirst_2 0 rfl ?_
  refine x_aload_n C.1 dX2_onlyFirst_3 1 rfl ?_
  obtain ⟨z13, ez13, bz13⟩ := hI9.rd 98 8 (x := 0) (y := 3) rfl
  replace hF := hF.to (rdb_e (z := z13) ez13)
  replace hF := hF.fc bz13
  refine x_getI C (N := 129) (i := 98) (by decide) rfl vc_X2 wx_X2 8 (by decide) wf_X2_73 rfl dX2_onlyFirst_4 (a := z13) ez13 ?_
  refine x_icmp_ge C.1 (tgt := 23) dX2_onlyFirst_7 (by decide) (by omega) (by omega) (fun hc14 => ?_) (fun hc14 => ?_)
  · replace hF := hF.to (if_pos hc14)
    exact x_vret (S := (Nat → Nat → Int)) (post := (fun u : Nat → Nat → Int => XI G u ∧ FB (fun i k : Nat => (98 ≤ i ∧ i ≤ 104)) V u ∧ (f_s_onlyFirst x1 V J Rr) u)) (w1 := (fun u : Nat → Nat → Int => XW cy ad u J Rr)) C hr rfl dX2_onlyFirst_23 V9 rfl ⟨hI9, hB9, hF _ rfl⟩
  · replace hF := hF.to (if_neg hc14)
    refine x_aload_n C.1 dX2_onlyFirst_10 1 rfl ?_
    refine x_getA C (N := 129) (i := 98) (by decide) rfl vc_X2 wx_X2 7 (by decide) wf_X2_28 (a := 104) rfl dX2_onlyFirst_11 ?_
    refine x_iload_n C.1 dX2_onlyFirst_14 0 rfl ?_
    refine x_iconst C.1 (n := 0) dX2_onlyFirst_15 ?_
    refine x_iast C (N := 129) (i := 104) (q := z8) (a := 0) (by decide) rfl (by omega) (by decide) dX2_onlyFirst_16 ?_
    refine x_gV ?_
    intro V15 hV15
    have hI15 : XI G V15 := hI9.up hV15 rfl (by decide) rfl
    have hB15 := hB9.up hV15 (⟨by decide, by decide⟩)
    replace hF := hF.to (rdb_e (z := V15) hV15.symm)
    refine x_iinc C.1 (v := z8 + 1) (lv' := [(2, vI (z8 + 1)), (0, .ref (ad 98)), (1, vI x1)]) (by omega) dX2_onlyFirst_17 0 rfl (by decide) rfl ?_
    refine x_goto C.1 (tgt := 2) dX2_onlyFirst_20 (by decide) ?_
    have hmu9 : (4 - (z8 + 1)).toNat < (4 - z8).toNat := (by omega)
    exact ih9 (z8 + 1, V15) ⟨⟨by omega, by omega⟩, hI15, hB15, ⟨nf9, Nat.lt_of_lt_of_le hmu9 (Nat.le_of_lt_succ hn9), hF⟩⟩ hmu9
theorem dX2_giveBelow_0 : decode cX2_giveBelow 0 = .ok (.aload_n 0, 1) := by decide +kernel
theorem dX2_giveBelow_1 : decode cX2_giveBelow 1 = .ok (.iload_n 1, 1) := by decide +kernel
theorem dX2_giveBelow_2 : decode cX2_giveBelow 2 = .ok (.putfield 94, 3) := by decide +kernel
theorem dX2_giveBelow_5 : decode cX2_giveBelow 5 = .ok (.aload_n 0, 1) := by decide +kernel
theorem dX2_giveBelow_6 : decode cX2_giveBelow 6 = .ok (.iload_n 2, 1) := by decide +kernel
theorem dX2_giveBelow_7 : decode cX2_giveBelow 7 = .ok (.putfield 76, 3) := by decide +kernel
theorem dX2_giveBelow_10 : decode cX2_giveBelow 10 = .ok (.return_, 1) := by decide +kernel
set_option maxRecDepth 100000 in
def f_s_giveBelow (x1 : Int) (x2 : Int) (V : Nat → Nat → Int) (J : Nat → Nat → Int) (Rr : Nat → Nat → Nat) : (Nat → Nat → Int) → Prop :=
  rdb (up2 V 98 14 x1) fun V1 => rdb (up2 V1 98 15 x2) fun V2 => rtn V2
set_option maxHeartbeats 8000000 in
set_option maxRecDepth 100000 in
theorem s_giveBelow (l : Launch) (D : va_G) (cy : Nat → ClassId) (ad : Nat → Nat) (G : Nat → Nat → Int) (V J : Nat → Nat → Int) (Rr : Nat → Nat → Nat) (hI : XI G V) (hJ : VJ J) (hR : XR Rr) (x1 : Int) (bx1 : -2147483648 ≤ x1 ∧ x1 ≤ 2147483647) (x2 : Int) (bx2 : -2147483648 ≤ x2 ∧ x2 ≤ 2147483647) : xMv l D (xTY cy) yX2_giveBelow cX2_giveBelow 3 none 0 0 0 0 [.ref (ad 98), vI x1, vI x2] (XW cy ad V J Rr) (fun u : Nat → Nat → Int => XW cy ad u J Rr) (fun u : Nat → Nat → Int => XI G u ∧ FB (fun i k : Nat => (98 ≤ i ∧ i ≤ 104)) V u ∧ (f_s_giveBelow x1 x2 V J Rr) u) := by
  refine xMv.mk (lv0 := [(0, .ref (ad 98)), (1, vI x1), (2, vI x2)]) (by decide) rfl (Nat.le_of_ble_eq_true rfl) (fun p e s m below meth c A C hr hnm hAe => ?_)
  have C : xC2 p s m _ meth c D A s.heap 3 cX2_giveBelow RX2 (xTY cy) := C
  have hB : FB (fun i k : Nat => (98 ≤ i ∧ i ≤ 104)) V V := FB.rf _ _
  have hF := Imp.of_eq (f_s_giveBelow.eq_def x1 x2 V J Rr)
  refine x_aload_n C.1 dX2_giveBelow_0 0 rfl ?_
  refine x_iload_n C.1 dX2_giveBelow_1 1 rfl ?_
  refine x_putI C (N := 129) (i := 98) (by decide) rfl vc_X2 wx_X2 14 (by decide) wf_X2_94 tyX2 tyX2_ok nmX2 rfl (tyX2_ok 14 (by decide)) rfl dX2_giveBelow_2 rfl rfl ?_
  refine x_gV ?_
  intro V1 hV1
  have hI1 : XI G V1 := hI.up hV1 rfl (by omega) rfl
  have hB1 := hB.up hV1 (⟨by decide, by decide⟩)
  replace hF := hF.to (rdb_e (z := V1) hV1.symm)
  refine x_aload_n C.1 dX2_giveBelow_5 0 rfl ?_
  refine x_iload_n C.1 dX2_giveBelow_6 2 rfl ?_
  refine x_putI C (N := 129) (i := 98) (by decide) rfl vc_X2 wx_X2 15 (by decide) wf_X2_76 tyX2 tyX2_ok nmX2 rfl (tyX2_ok 15 (by decide)) rfl dX2_giveBelow_7 rfl rfl ?_
  refine x_gV ?_
  intro V2 hV2
  have hI2 : XI G V2 := hI1.up hV2 rfl (by omega) rfl
  have hB2 := hB1.up hV2 (⟨by decide, by decide⟩)
  replace hF := hF.to (rdb_e (z := V2) hV2.symm)
  exact x_vret (S := (Nat → Nat → Int)) (post := (fun u : Nat → Nat → Int => XI G u ∧ FB (fun i k : Nat => (98 ≤ i ∧ i ≤ 104)) V u ∧ (f_s_giveBelow x1 x2 V J Rr) u)) (w1 := (fun u : Nat → Nat → Int => XW cy ad u J Rr)) C hr rfl dX2_giveBelow_10 V2 rfl ⟨hI2, hB2, hF _ rfl⟩
theorem dX2_clear_0 : decode cX2_clear 0 = .ok (.aload_n 0, 1) := by decide +kernel
theorem dX2_clear_1 : decode cX2_clear 1 = .ok (.getfield 11, 3) := by decide +kernel
theorem dX2_clear_4 : decode cX2_clear 4 = .ok (.lconst 0, 1) := by decide +kernel
theorem dX2_clear_5 : decode cX2_clear 5 = .ok (.invokestatic 184, 3) := by decide +kernel
theorem dX2_clear_8 : decode cX2_clear 8 = .ok (.aload_n 0, 1) := by decide +kernel
theorem dX2_clear_9 : decode cX2_clear 9 = .ok (.getfield 15, 3) := by decide +kernel
theorem dX2_clear_12 : decode cX2_clear 12 = .ok (.lconst 0, 1) := by decide +kernel
theorem dX2_clear_13 : decode cX2_clear 13 = .ok (.invokestatic 184, 3) := by decide +kernel
theorem dX2_clear_16 : decode cX2_clear 16 = .ok (.aload_n 0, 1) := by decide +kernel
theorem dX2_clear_17 : decode cX2_clear 17 = .ok (.iconst 0, 1) := by decide +kernel
theorem dX2_clear_18 : decode cX2_clear 18 = .ok (.putfield 176, 3) := by decide +kernel
theorem dX2_clear_21 : decode cX2_clear 21 = .ok (.aload_n 0, 1) := by decide +kernel
theorem dX2_clear_22 : decode cX2_clear 22 = .ok (.iconst 0, 1) := by decide +kernel
theorem dX2_clear_23 : decode cX2_clear 23 = .ok (.putfield 179, 3) := by decide +kernel
theorem dX2_clear_26 : decode cX2_clear 26 = .ok (.return_, 1) := by decide +kernel
set_option maxRecDepth 100000 in
def f_s_clear (V : Nat → Nat → Int) (J : Nat → Nat → Int) (Rr : Nat → Nat → Nat) : (xS) → Prop :=
  rdb (Rr 98 0) fun t1 => calTX (fun _ _ => False) V (f_s_fillW t1 0 V J Rr) fun V2 J2 R2 => rdb (R2 98 1) fun t3 => calTX (fun _ _ => False) V2 (f_s_fillW t3 0 V2 J2 R2) fun V4 J4 R4 => rdb (up2 V4 98 4 0) fun V5 => rdb (up2 V5 98 5 0) fun V6 => rtn (V6, J4, R4)
set_option maxHeartbeats 8000000 in
set_option maxRecDepth 100000 in
theorem s_clear (l : Launch) (D : va_G) (cy : Nat → ClassId) (ad : Nat → Nat) (G : Nat → Nat → Int) (V J : Nat → Nat → Int) (Rr : Nat → Nat → Nat) (hI : XI G V) (hJ : VJ J) (hR : XR Rr)  : xMv l D (xTY cy) yX2_clear cX2_clear 1 none 1 24 0 0 [.ref (ad 98)] (XW cy ad V J Rr) (fun u : xS => XW cy ad u.1 u.2.1 u.2.2) (fun u : xS => XS G u ∧ FB (fun i k : Nat => (98 ≤ i ∧ i ≤ 104)) V u.1 ∧ RK u.2.2 Rr ∧ (f_s_clear V J Rr) u) := by
  refine xMv.mk (lv0 := [(0, .ref (ad 98))]) (by decide) rfl (Nat.le_of_ble_eq_true rfl) (fun p e s m below meth c A C hr hnm hAe => ?_)
  have C : xC2 p s m _ meth c D A s.heap 1 cX2_clear RX2 (xTY cy) := C
  have hB : FB (fun i k : Nat => (98 ≤ i ∧ i ≤ 104)) V V := FB.rf _ _
  have hF := Imp.of_eq (f_s_clear.eq_def V J Rr)
  refine x_aload_n C.1 dX2_clear_0 0 rfl ?_
  obtain ⟨t1, et1, ht1⟩ := XR.w hR (k := 0) (by decide)
  replace hF := hF.to (rdb_e (z := t1) et1)
  refine x_getR C (N := 129) (i := 98) (by decide) rfl vc_X2 wx_X2 0 (by decide) wf_X2_11 rfl dX2_clear_1 (a := t1) et1 ?_
  refine x_lconst0 C.1 dX2_clear_4 ?_
  refine x_callSv C (As := [.ref (ad t1), vJ 0]) (rest := []) (s_fillW l D cy ad G V J Rr hI hJ hR t1 ht1 0 ⟨by decide, by decide⟩) (l1 := []) (l2 := []) (List.append_nil _).symm (w2 := fun u : xS => XW cy ad u.1 u.2.1 u.2.2) (fun _ => List.append_nil _) rfl wm_yJ7_fill_d0a16 wn_J7 wl_X2_184 wi_yJ7_fill_d0a16 hd_yJ7_fill_d0a16 rfl ⟨Nat.le_of_ble_eq_true rfl, Nat.le_of_ble_eq_true rfl⟩ (Nat.le_of_ble_eq_true rfl) ⟨Nat.le_of_ble_eq_true rfl, Nat.le_of_ble_eq_true rfl⟩ dX2_clear_5 (fun u2 h2 => ?_)
  obtain ⟨V2, J2, R2⟩ := u2
  obtain ⟨hS2, hBc2, hEc2, hFc2⟩ := h2
  replace hF := calTX_i hF hFc2 hBc2
  have hB2 := hB.tr hBc2 (fun _ _ h => h.elim)
  have hE2 : RK R2 Rr := RK.tr (RK.rf _) hEc2
  obtain ⟨hI2, hJ2, hR2⟩ := hS2
  dsimp only at hI2 hJ2 hR2 ⊢
  refine x_aload_n C.1 dX2_clear_8 0 rfl ?_
  obtain ⟨t3, et3, ht3⟩ := XR.w hR2 (k := 1) (by decide)
  replace hF := hF.to (rdb_e (z := t3) et3)
  refine x_getR C (N := 129) (i := 98) (by decide) rfl vc_X2 wx_X2 1 (by decide) wf_X2_15 rfl dX2_clear_9 (a := t3) et3 ?_
  refine x_lconst0 C.1 dX2_clear_12 ?_
  refine x_callSv C (As := [.ref (ad t3), vJ 0]) (rest := []) (s_fillW l D cy ad G V2 J2 R2 hI2 hJ2 hR2 t3 ht3 0 ⟨by decide, by decide⟩) (l1 := []) (l2 := []) (List.append_nil _).symm (w2 := fun u : xS => XW cy ad u.1 u.2.1 u.2.2) (fun _ => List.append_nil _) rfl wm_yJ7_fill_d0a16 wn_J7 wl_X2_184 wi_yJ7_fill_d0a16 hd_yJ7_fill_d0a16 rfl ⟨Nat.le_of_ble_eq_true rfl, Nat.le_of_ble_eq_true rfl⟩ (Nat.le_of_ble_eq_true rfl) ⟨Nat.le_of_ble_eq_true rfl, Nat.le_of_ble_eq_true rfl⟩ dX2_clear_13 (fun u4 h4 => ?_)
  obtain ⟨V4, J4, R4⟩ := u4
  obtain ⟨hS4, hBc4, hEc4, hFc4⟩ := h4
  replace hF := calTX_i hF hFc4 hBc4
  have hB4 := hB2.tr hBc4 (fun _ _ h => h.elim)
  have hE4 : RK R4 Rr := RK.tr hE2 hEc4
  obtain ⟨hI4, hJ4, hR4⟩ := hS4
  dsimp only at hI4 hJ4 hR4 ⊢
  refine x_aload_n C.1 dX2_clear_16 0 rfl ?_
  refine x_iconst C.1 (n := 0) dX2_clear_17 ?_
  refine x_putI C (N := 129) (i := 98) (by decide) rfl vc_X2 wx_X2 4 (by decide) wf_X2_176 tyX2 tyX2_ok nmX2 rfl (tyX2_ok 4 (by decide)) rfl dX2_clear_18 rfl rfl ?_
  refine x_gV ?_
  intro V5 hV5
  have hI5 : XI G V5 := hI4.up hV5 rfl (by decide) rfl
  have hB5 := hB4.up hV5 (⟨by decide, by decide⟩)
  replace hF := hF.to (rdb_e (z := V5) hV5.symm)
  refine x_aload_n C.1 dX2_clear_21 0 rfl ?_
  refine x_iconst C.1 (n := 0) dX2_clear_22 ?_
  refine x_putI C (N := 129) (i := 98) (by decide) rfl vc_X2 wx_X2 5 (by decide) wf_X2_179 tyX2 tyX2_ok nmX2 rfl (tyX2_ok 5 (by decide)) rfl dX2_clear_23 rfl rfl ?_
  refine x_gV ?_
  intro V6 hV6
  have hI6 : XI G V6 := hI5.up hV6 rfl (by decide) rfl
  have hB6 := hB5.up hV6 (⟨by decide, by decide⟩)
  replace hF := hF.to (rdb_e (z := V6) hV6.symm)
  exact x_vret (S := xS) (post := (fun u : xS => XS G u ∧ FB (fun i k : Nat => (98 ≤ i ∧ i ≤ 104)) V u.1 ∧ RK u.2.2 Rr ∧ (f_s_clear V J Rr) u)) (w1 := (fun u : xS => XW cy ad u.1 u.2.1 u.2.2)) C hr rfl dX2_clear_26 (V6, J4, R4) rfl ⟨⟨hI6, hJ4, hR4⟩, hB6, hE4, hF _ rfl⟩
theorem dX2_add_0 : decode cX2_add 0 = .ok (.lload_n 2, 1) := by decide +kernel
theorem dX2_add_1 : decode cX2_add 1 = .ok (.lconst 0, 1) := by decide +kernel
theorem dX2_add_2 : decode cX2_add 2 = .ok (.lcmp, 1) := by decide +kernel
theorem dX2_add_3 : decode cX2_add 3 = .ok (.ifCond .le 14, 3) := by decide +kernel
theorem dX2_add_6 : decode cX2_add 6 = .ok (.iload_n 1, 1) := by decide +kernel
theorem dX2_add_7 : decode cX2_add 7 = .ok (.ifCond .lt 10, 3) := by decide +kernel
theorem dX2_add_10 : decode cX2_add 10 = .ok (.iload_n 1, 1) := by decide +kernel
theorem dX2_add_11 : decode cX2_add 11 = .ok (.sipush 475, 3) := by decide +kernel
theorem dX2_add_14 : decode cX2_add 14 = .ok (.if_icmp .lt 4, 3) := by decide +kernel
theorem dX2_add_17 : decode cX2_add 17 = .ok (.return_, 1) := by decide +kernel
theorem dX2_add_18 : decode cX2_add 18 = .ok (.aload_n 0, 1) := by decide +kernel
theorem dX2_add_19 : decode cX2_add 19 = .ok (.getfield 15, 3) := by decide +kernel
theorem dX2_add_22 : decode cX2_add 22 = .ok (.iload_n 1, 1) := by decide +kernel
theorem dX2_add_23 : decode cX2_add 23 = .ok (.laload, 1) := by decide +kernel
theorem dX2_add_24 : decode cX2_add 24 = .ok (.lconst 0, 1) := by decide +kernel
theorem dX2_add_25 : decode cX2_add 25 = .ok (.lcmp, 1) := by decide +kernel
theorem dX2_add_26 : decode cX2_add 26 = .ok (.ifCond .ne 33, 3) := by decide +kernel
theorem dX2_add_29 : decode cX2_add 29 = .ok (.aload_n 0, 1) := by decide +kernel
theorem dX2_add_30 : decode cX2_add 30 = .ok (.getfield 179, 3) := by decide +kernel
theorem dX2_add_33 : decode cX2_add 33 = .ok (.sipush 475, 3) := by decide +kernel
theorem dX2_add_36 : decode cX2_add 36 = .ok (.if_icmp .ge 23, 3) := by decide +kernel
theorem dX2_add_39 : decode cX2_add 39 = .ok (.aload_n 0, 1) := by decide +kernel
theorem dX2_add_40 : decode cX2_add 40 = .ok (.getfield 22, 3) := by decide +kernel
theorem dX2_add_43 : decode cX2_add 43 = .ok (.aload_n 0, 1) := by decide +kernel
theorem dX2_add_44 : decode cX2_add 44 = .ok (.getfield 179, 3) := by decide +kernel
theorem dX2_add_47 : decode cX2_add 47 = .ok (.iload_n 1, 1) := by decide +kernel
theorem dX2_add_48 : decode cX2_add 48 = .ok (.iastore, 1) := by decide +kernel
theorem dX2_add_49 : decode cX2_add 49 = .ok (.aload_n 0, 1) := by decide +kernel
theorem dX2_add_50 : decode cX2_add 50 = .ok (.dup, 1) := by decide +kernel
theorem dX2_add_51 : decode cX2_add 51 = .ok (.getfield 179, 3) := by decide +kernel
theorem dX2_add_54 : decode cX2_add 54 = .ok (.iconst 1, 1) := by decide +kernel
theorem dX2_add_55 : decode cX2_add 55 = .ok (.iadd, 1) := by decide +kernel
theorem dX2_add_56 : decode cX2_add 56 = .ok (.putfield 179, 3) := by decide +kernel
theorem dX2_add_59 : decode cX2_add 59 = .ok (.aload_n 0, 1) := by decide +kernel
theorem dX2_add_60 : decode cX2_add 60 = .ok (.getfield 15, 3) := by decide +kernel
theorem dX2_add_63 : decode cX2_add 63 = .ok (.iload_n 1, 1) := by decide +kernel
theorem dX2_add_64 : decode cX2_add 64 = .ok (.dup2, 1) := by decide +kernel
theorem dX2_add_65 : decode cX2_add 65 = .ok (.laload, 1) := by decide +kernel
theorem dX2_add_66 : decode cX2_add 66 = .ok (.lload_n 2, 1) := by decide +kernel
theorem dX2_add_67 : decode cX2_add 67 = .ok (.ladd, 1) := by decide +kernel
theorem dX2_add_68 : decode cX2_add 68 = .ok (.lastore, 1) := by decide +kernel
theorem dX2_add_69 : decode cX2_add 69 = .ok (.return_, 1) := by decide +kernel
set_option maxRecDepth 100000 in
def f_s_addC (x1 : Int) (x2 : Int) (V : Nat → Nat → Int) (J : Nat → Nat → Int) (Rr : Nat → Nat → Nat) : (xS) → Prop :=
  (if (lcI x2 0) ≤ 0 then rtn (V, J, Rr) else (if x1 < 0 then rtn (V, J, Rr) else (if x1 < 475 then rdb (Rr 98 1) fun t5 => rdb (J t5 x1.toNat) fun z6 => jnk (fun (V13 : Nat → Nat → Int) => rdb (J t5 x1.toNat) fun z14 => rdb (wrJ (z14 + x2)) fun z15 => rdb (up2 J t5 x1.toNat z15) fun J16 => rtn (V13, J16, Rr)) fun jf13 => (if ¬ (lcI z6 0) = 0 then jf13 V else rdb (V 98 5) fun z18 => fct (0 ≤ z18 ∧ z18 ≤ 475) <| (if 475 ≤ z18 then jf13 V else rdb (Rr 98 3) fun t20 => rdb (up2 V t20 z18.toNat x1) fun V21 => rdb (up2 V21 98 5 (z18 + 1)) fun V22 => jf13 V22)) else rtn (V, J, Rr))))
set_option maxHeartbeats 8000000 in
set_option maxRecDepth 100000 in
theorem s_addC (l : Launch) (D : va_G) (cy : Nat → ClassId) (ad : Nat → Nat) (G : Nat → Nat → Int) (V J : Nat → Nat → Int) (Rr : Nat → Nat → Nat) (hI : XI G V) (hJ : VJ J) (hR : XR Rr) (x1 : Int) (bx1 : -2147483648 ≤ x1 ∧ x1 ≤ 2147483647) (x2 : Int) (bx2 : -9223372036854775808 ≤ x2 ∧ x2 ≤ 9223372036854775807) : xMv l D (xTY cy) yX2_add cX2_add 4 none 0 0 0 0 [.ref (ad 98), vI x1, vJ x2] (XW cy ad V J Rr) (fun u : xS => XW cy ad u.1 u.2.1 u.2.2) (fun u : xS => XS G u ∧ FB (fun i k : Nat => (98 ≤ i ∧ i ≤ 104)) V u.1 ∧ RK u.2.2 Rr ∧ (f_s_addC x1 x2 V J Rr) u) := by
  refine xMv.mk (lv0 := [(0, .ref (ad 98)), (1, vI x1), (2, vJ x2)]) (by decide) rfl (Nat.le_of_ble_eq_true rfl) (fun p e s m below meth c A C hr hnm hAe => ?_)
  have C : xC2 p s m _ meth c D A s.heap 4 cX2_add RX2 (xTY cy) := C
  have hB : FB (fun i k : Nat => (98 ≤ i ∧ i ≤ 104)) V V := FB.rf _ _
  have hF := Imp.of_eq (f_s_addC.eq_def x1 x2 V J Rr)
  refine x_lload_n C.1 dX2_add_0 2 rfl ?_
  refine x_lconst0 C.1 dX2_add_1 ?_
  refine x_lcmp C.1 rfl dX2_add_2 (by omega) (by decide) ?_
  have bz1 := lcI_r2 x2 0
  refine x_if_le C.1 (tgt := 17) dX2_add_3 (by decide) (by omega) (fun hc2 => ?_) (fun hc2 => ?_)
  · replace hF := hF.to (if_pos hc2)
    rw [lcI_le] at hc2
    exact x_vret (S := xS) (post := (fun u : xS => XS G u ∧ FB (fun i k : Nat => (98 ≤ i ∧ i ≤ 104)) V u.1 ∧ RK u.2.2 Rr ∧ (f_s_addC x1 x2 V J Rr) u)) (w1 := (fun u : xS => XW cy ad u.1 u.2.1 u.2.2)) C hr rfl dX2_add_17 (V, J, Rr) rfl ⟨⟨hI, hJ, hR⟩, hB, (RK.rf _), hF _ rfl⟩
  · replace hF := hF.to (if_neg hc2)
    rw [lcI_le] at hc2
    refine x_iload_n C.1 dX2_add_6 1 rfl ?_
    refine x_if_lt C.1 (tgt := 17) dX2_add_7 (by decide) (by omega) (fun hc3 => ?_) (fun hc3 => ?_)
    · replace hF := hF.to (if_pos hc3)
      exact x_vret (S := xS) (post := (fun u : xS => XS G u ∧ FB (fun i k : Nat => (98 ≤ i ∧ i ≤ 104)) V u.1 ∧ RK u.2.2 Rr ∧ (f_s_addC x1 x2 V J Rr) u)) (w1 := (fun u : xS => XW cy ad u.1 u.2.1 u.2.2)) C hr rfl dX2_add_17 (V, J, Rr) rfl ⟨⟨hI, hJ, hR⟩, hB, (RK.rf _), hF _ rfl⟩
    · replace hF := hF.to (if_neg hc3)
      refine x_iload_n C.1 dX2_add_10 1 rfl ?_
      refine x_sipush C.1 (n := 475) dX2_add_11 ?_
      refine x_icmp_lt C.1 (tgt := 18) dX2_add_14 (by decide) (by omega) (by decide) (fun hc4 => ?_) (fun hc4 => ?_)
      · replace hF := hF.to (if_pos hc4)
        refine x_aload_n C.1 dX2_add_18 0 rfl ?_
        obtain ⟨t5, et5, ht5⟩ := XR.w hR (k := 1) (by decide)
        replace hF := hF.to (rdb_e (z := t5) et5)
        refine x_getR C (N := 129) (i := 98) (by decide) rfl vc_X2 wx_X2 1 (by decide) wf_X2_15 rfl dX2_add_19 (a := t5) et5 ?_
        refine x_iload_n C.1 dX2_add_22 1 rfl ?_
        obtain ⟨z6, ez6, bz6⟩ := hJ.rd t5 x1.toNat
        replace hF := hF.to (rdb_e (z := z6) ez6)
        refine x_lald C (N := 129) (i := t5) (q := x1) (by omega) (xd_Wt ht5) (by omega) (by decide) dX2_add_23 (a := z6) ez6 ?_
        refine x_lconst0 C.1 dX2_add_24 ?_
        refine x_lcmp C.1 rfl dX2_add_25 (by omega) (by decide) ?_
        have bz7 := lcI_r2 z6 0
        obtain ⟨jf13, hjf13, hF⟩ := jn_ex hF
        refine x_join (I := fun V13 : (Nat → Nat → Int) => XI G V13 ∧ FB (fun i k : Nat => (98 ≤ i ∧ i ≤ 104)) V V13 ∧ Imp (jf13 V13) (f_s_addC x1 x2 V J Rr)) (wsf := fun V13 : (Nat → Nat → Int) => XW cy ad V13 J Rr) (lvf := fun V13 : (Nat → Nat → Int) => [(0, .ref (ad 98)), (1, vI x1), (2, vJ x2)]) (stf := fun V13 : (Nat → Nat → Int) => []) 59 (fun V13 hI13x => ?_) (fun jn13 => ?_)
        · obtain ⟨hI13, hB13, hF⟩ := hI13x
          try dsimp only
          replace hF := hF.to (jn_s1 hjf13)
          refine x_aload_n C.1 dX2_add_59 0 rfl ?_
          refine x_getR C (N := 129) (i := 98) (by decide) rfl vc_X2 wx_X2 1 (by decide) wf_X2_15 rfl dX2_add_60 (a := t5) et5 ?_
          refine x_iload_n C.1 dX2_add_63 1 rfl ?_
          refine x_dup2 C.1 dX2_add_64 rfl rfl ?_
          obtain ⟨z14, ez14, bz14⟩ := hJ.rd t5 x1.toNat
          replace hF := hF.to (rdb_e (z := z14) ez14)
          refine x_lald C (N := 129) (i := t5) (q := x1) (by omega) (xd_Wt ht5) (by omega) (by decide) dX2_add_65 (a := z14) ez14 ?_
          refine x_lload_n C.1 dX2_add_66 2 rfl ?_
          refine x_ladd C.1 (v := z14 + x2) (by omega) dX2_add_67 ?_
          refine x_wrapJg ?_
          intro z15 bz15 ew15
          replace hF := hF.to (rdb_e (z := z15) ew15.symm)
          refine x_last C (N := 129) (i := t5) (q := x1) (a := z15) (by omega) (xd_Wt ht5) (by omega) (by decide) dX2_add_68 ?_
          refine x_gJ ?_
          intro J16 hJe16
          have hJ16 : VJ J16 := hJ.upS hJe16 (by omega)
          replace hF := hF.to (rdb_e (z := J16) hJe16.symm)
          exact x_vret (S := xS) (post := (fun u : xS => XS G u ∧ FB (fun i k : Nat => (98 ≤ i ∧ i ≤ 104)) V u.1 ∧ RK u.2.2 Rr ∧ (f_s_addC x1 x2 V J Rr) u)) (w1 := (fun u : xS => XW cy ad u.1 u.2.1 u.2.2)) C hr rfl dX2_add_69 (V13, J16, Rr) rfl ⟨⟨hI13, hJ16, hR⟩, hB13, (RK.rf _), hF _ rfl⟩
        · refine x_if_ne C.1 (tgt := 59) dX2_add_26 (by decide) (by omega) (fun hc17 => ?_) (fun hc17 => ?_)
          · replace hF := hF.to (if_pos hc17)
            rw [lcI_eq] at hc17
            exact jn13 V ⟨hI, hB, hF⟩
          · replace hF := hF.to (if_neg (fun hh => hh hc17))
            rw [lcI_eq] at hc17
            refine x_aload_n C.1 dX2_add_29 0 rfl ?_
            obtain ⟨z18, ez18, bz18⟩ := hI.rd 98 5 (x := 0) (y := 475) rfl
            replace hF := hF.to (rdb_e (z := z18) ez18)
            replace hF := hF.fc bz18
            refine x_getI C (N := 129) (i := 98) (by decide) rfl vc_X2 wx_X2 5 (by decide) wf_X2_179 rfl dX2_add_30 (a := z18) ez18 ?_
            refine x_sipush C.1 (n := 475) dX2_add_33 ?_
            refine x_icmp_ge C.1 (tgt := 59) dX2_add_36 (by decide) (by omega) (by decide) (fun hc19 => ?_) (fun hc19 => ?_)
            · replace hF := hF.to (if_pos hc19)
              exact jn13 V ⟨hI, hB, hF⟩
            · replace hF := hF.to (if_neg hc19)
              refine x_aload_n C.1 dX2_add_39 0 rfl ?_
              obtain ⟨t20, et20, ht20⟩ := XR.st hR (k := 3) (by decide)
              replace hF := hF.to (rdb_e (z := t20) et20)
              refine x_getR C (N := 129) (i := 98) (by decide) rfl vc_X2 wx_X2 3 (by decide) wf_X2_22 rfl dX2_add_40 (a := t20) et20 ?_
              refine x_aload_n C.1 dX2_add_43 0 rfl ?_
              refine x_getI C (N := 129) (i := 98) (by decide) rfl vc_X2 wx_X2 5 (by decide) wf_X2_179 rfl dX2_add_44 (a := z18) ez18 ?_
              refine x_iload_n C.1 dX2_add_47 1 rfl ?_
              refine x_iast C (N := 129) (i := t20) (q := z18) (a := x1) (by omega) (xd_St ht20) (by omega) (by decide) dX2_add_48 ?_
              refine x_gV ?_
              intro V21 hV21
              have hI21 : XI G V21 := hI.up hV21 (rg_St ht20 _) (by omega) (pr_St ht20 _)
              have hB21 := hB.up hV21 (⟨by omega, by omega⟩)
              replace hF := hF.to (rdb_e (z := V21) hV21.symm)
              refine x_aload_n C.1 dX2_add_49 0 rfl ?_
              refine x_dup C.1 dX2_add_50 rfl ?_
              refine x_getI C (N := 129) (i := 98) (by decide) rfl vc_X2 wx_X2 5 (by decide) wf_X2_179 rfl dX2_add_51 (a := z18) ((congrFun (congrFun hV21 98) 5).trans ((up2_n _ _ (Or.inl (by omega))).trans ez18)) ?_
              refine x_iconst C.1 (n := 1) dX2_add_54 ?_
              refine x_iadd C.1 (v := z18 + 1) (by omega) dX2_add_55 ?_
              refine x_putI C (N := 129) (i := 98) (by decide) rfl vc_X2 wx_X2 5 (by decide) wf_X2_179 tyX2 tyX2_ok nmX2 rfl (tyX2_ok 5 (by decide)) rfl dX2_add_56 rfl rfl ?_
              refine x_gV ?_
              intro V22 hV22
              have hI22 : XI G V22 := hI21.up hV22 rfl (by omega) rfl
              have hB22 := hB21.up hV22 (⟨by decide, by decide⟩)
              replace hF := hF.to (rdb_e (z := V22) hV22.symm)
              exact jn13 V22 ⟨hI22, hB22, hF⟩
      · replace hF := hF.to (if_neg hc4)
        exact x_vret (S := xS) (post := (fun u : xS => XS G u ∧ FB (fun i k : Nat => (98 ≤ i ∧ i ≤ 104)) V u.1 ∧ RK u.2.2 Rr ∧ (f_s_addC x1 x2 V J Rr) u)) (w1 := (fun u : xS => XW cy ad u.1 u.2.1 u.2.2)) C hr rfl dX2_add_17 (V, J, Rr) rfl ⟨⟨hI, hJ, hR⟩, hB, (RK.rf _), hF _ rfl⟩
theorem dX2_goOn_0 : decode cX2_goOn 0 = .ok (.iconst 0, 1) := by decide +kernel
theorem dX2_goOn_1 : decode cX2_goOn 1 = .ok (.istore_n 1, 1) := by decide +kernel
theorem dX2_goOn_2 : decode cX2_goOn 2 = .ok (.iload_n 1, 1) := by decide +kernel
theorem dX2_goOn_3 : decode cX2_goOn 3 = .ok (.aload_n 0, 1) := by decide +kernel
theorem dX2_goOn_4 : decode cX2_goOn 4 = .ok (.getfield 176, 3) := by decide +kernel
theorem dX2_goOn_7 : decode cX2_goOn 7 = .ok (.if_icmp .ge 21, 3) := by decide +kernel
theorem dX2_goOn_10 : decode cX2_goOn 10 = .ok (.aload_n 0, 1) := by decide +kernel
theorem dX2_goOn_11 : decode cX2_goOn 11 = .ok (.getfield 11, 3) := by decide +kernel
theorem dX2_goOn_14 : decode cX2_goOn 14 = .ok (.aload_n 0, 1) := by decide +kernel
theorem dX2_goOn_15 : decode cX2_goOn 15 = .ok (.getfield 18, 3) := by decide +kernel
theorem dX2_goOn_18 : decode cX2_goOn 18 = .ok (.iload_n 1, 1) := by decide +kernel
theorem dX2_goOn_19 : decode cX2_goOn 19 = .ok (.iaload, 1) := by decide +kernel
theorem dX2_goOn_20 : decode cX2_goOn 20 = .ok (.lconst 0, 1) := by decide +kernel
theorem dX2_goOn_21 : decode cX2_goOn 21 = .ok (.lastore, 1) := by decide +kernel
theorem dX2_goOn_22 : decode cX2_goOn 22 = .ok (.iinc 1 1, 3) := by decide +kernel
theorem dX2_goOn_25 : decode cX2_goOn 25 = .ok (.goto (-23), 3) := by decide +kernel
theorem dX2_goOn_28 : decode cX2_goOn 28 = .ok (.aload_n 0, 1) := by decide +kernel
theorem dX2_goOn_29 : decode cX2_goOn 29 = .ok (.getfield 11, 3) := by decide +kernel
theorem dX2_goOn_32 : decode cX2_goOn 32 = .ok (.astore_n 1, 1) := by decide +kernel
theorem dX2_goOn_33 : decode cX2_goOn 33 = .ok (.aload_n 0, 1) := by decide +kernel
theorem dX2_goOn_34 : decode cX2_goOn 34 = .ok (.aload_n 0, 1) := by decide +kernel
theorem dX2_goOn_35 : decode cX2_goOn 35 = .ok (.getfield 15, 3) := by decide +kernel
theorem dX2_goOn_38 : decode cX2_goOn 38 = .ok (.putfield 11, 3) := by decide +kernel
theorem dX2_goOn_41 : decode cX2_goOn 41 = .ok (.aload_n 0, 1) := by decide +kernel
theorem dX2_goOn_42 : decode cX2_goOn 42 = .ok (.aload_n 1, 1) := by decide +kernel
theorem dX2_goOn_43 : decode cX2_goOn 43 = .ok (.putfield 15, 3) := by decide +kernel
theorem dX2_goOn_46 : decode cX2_goOn 46 = .ok (.aload_n 0, 1) := by decide +kernel
theorem dX2_goOn_47 : decode cX2_goOn 47 = .ok (.getfield 18, 3) := by decide +kernel
theorem dX2_goOn_50 : decode cX2_goOn 50 = .ok (.astore_n 2, 1) := by decide +kernel
theorem dX2_goOn_51 : decode cX2_goOn 51 = .ok (.aload_n 0, 1) := by decide +kernel
theorem dX2_goOn_52 : decode cX2_goOn 52 = .ok (.aload_n 0, 1) := by decide +kernel
theorem dX2_goOn_53 : decode cX2_goOn 53 = .ok (.getfield 22, 3) := by decide +kernel
theorem dX2_goOn_56 : decode cX2_goOn 56 = .ok (.putfield 18, 3) := by decide +kernel
theorem dX2_goOn_59 : decode cX2_goOn 59 = .ok (.aload_n 0, 1) := by decide +kernel
theorem dX2_goOn_60 : decode cX2_goOn 60 = .ok (.aload_n 2, 1) := by decide +kernel
theorem dX2_goOn_61 : decode cX2_goOn 61 = .ok (.putfield 22, 3) := by decide +kernel
theorem dX2_goOn_64 : decode cX2_goOn 64 = .ok (.aload_n 0, 1) := by decide +kernel
theorem dX2_goOn_65 : decode cX2_goOn 65 = .ok (.aload_n 0, 1) := by decide +kernel
theorem dX2_goOn_66 : decode cX2_goOn 66 = .ok (.getfield 179, 3) := by decide +kernel
theorem dX2_goOn_69 : decode cX2_goOn 69 = .ok (.putfield 176, 3) := by decide +kernel
theorem dX2_goOn_72 : decode cX2_goOn 72 = .ok (.aload_n 0, 1) := by decide +kernel
theorem dX2_goOn_73 : decode cX2_goOn 73 = .ok (.iconst 0, 1) := by decide +kernel
theorem dX2_goOn_74 : decode cX2_goOn 74 = .ok (.putfield 179, 3) := by decide +kernel
theorem dX2_goOn_77 : decode cX2_goOn 77 = .ok (.aload_n 0, 1) := by decide +kernel
theorem dX2_goOn_78 : decode cX2_goOn 78 = .ok (.dup, 1) := by decide +kernel
theorem dX2_goOn_79 : decode cX2_goOn 79 = .ok (.getfield 117, 3) := by decide +kernel
theorem dX2_goOn_82 : decode cX2_goOn 82 = .ok (.ldc2_w 182, 3) := by decide +kernel
theorem dX2_goOn_85 : decode cX2_goOn 85 = .ok (.lmul, 1) := by decide +kernel
theorem dX2_goOn_86 : decode cX2_goOn 86 = .ok (.putfield 117, 3) := by decide +kernel
theorem dX2_goOn_89 : decode cX2_goOn 89 = .ok (.return_, 1) := by decide +kernel
set_option maxRecDepth 100000 in
def f_s_goOn (V : Nat → Nat → Int) (J : Nat → Nat → Int) (Rr : Nat → Nat → Nat) : (xS) → Prop :=
  lop2 (477) (fun rc151 (z150 : Int) (J151 : Nat → Nat → Int) => rdb (V 98 4) fun z176 => fct (0 ≤ z176 ∧ z176 ≤ 475) <| (if z176 ≤ z150 then rdb (Rr 98 0) fun t182 => rdb (Rr 98 1) fun t183 => rdb (up2 Rr 98 0 t183) fun R184 => rdb (up2 R184 98 1 t182) fun R185 => rdb (R185 98 2) fun t186 => rdb (R185 98 3) fun t187 => rdb (up2 R185 98 2 t187) fun R188 => rdb (up2 R188 98 3 t186) fun R189 => rdb (V 98 5) fun z190 => fct (0 ≤ z190 ∧ z190 ≤ 475) <| rdb (up2 V 98 4 z190) fun V191 => rdb (up2 V191 98 5 0) fun V192 => rdb (J151 98 16) fun z193 => rdb (wrJ (10 * z193)) fun z194 => rdb (up2 J151 98 16 z194) fun J195 => rtn (V192, J195, R189) else rdb (Rr 98 0) fun t196 => rdb (Rr 98 2) fun t197 => rdb (V t197 z150.toNat) fun z198 => fct (0 ≤ z198 ∧ z198 ≤ 474) <| rdb (up2 J151 t196 z198.toNat 0) fun J199 => rc151 (z150 + 1) J199)) 0 J
set_option maxHeartbeats 8000000 in
set_option maxRecDepth 100000 in
theorem s_goOn (l : Launch) (D : va_G) (cy : Nat → ClassId) (ad : Nat → Nat) (G : Nat → Nat → Int) (V J : Nat → Nat → Int) (Rr : Nat → Nat → Nat) (hI : XI G V) (hJ : VJ J) (hR : XR Rr)  : xMv l D (xTY cy) yX2_goOn cX2_goOn 3 none 0 0 0 0 [.ref (ad 98)] (XW cy ad V J Rr) (fun u : xS => XW cy ad u.1 u.2.1 u.2.2) (fun u : xS => XS G u ∧ FB (fun i k : Nat => (98 ≤ i ∧ i ≤ 104)) V u.1 ∧ RK u.2.2 Rr ∧ (f_s_goOn V J Rr) u) := by
  refine xMv.mk (lv0 := [(0, .ref (ad 98))]) (by decide) rfl (Nat.le_of_ble_eq_true rfl) (fun p e s m below meth c A C hr hnm hAe => ?_)
  have C : xC2 p s m _ meth c D A s.heap 3 cX2_goOn RX2 (xTY cy) := C
  have hB : FB (fun i k : Nat => (98 ≤ i ∧ i ≤ 104)) V V := FB.rf _ _
  have hF := Imp.of_eq (f_s_goOn.eq_def V J Rr)
  refine x_iconst C.1 (n := 0) dX2_goOn_0 ?_
  refine x_istore_n C.1 (lv' := [(1, vI 0), (0, .ref (ad 98))]) dX2_goOn_1 (by decide) rfl ?_
  obtain ⟨bd151, hbd151, hF⟩ := lop2_ex hF
  refine x_loop (I := fun x : Int × (Nat → Nat → Int) => match x with | (z150, J151) => (0 ≤ z150 ∧ z150 ≤ 475) ∧ VJ J151 ∧ (∃ nf : Nat, (476 - z150).toNat < nf ∧ Imp (lop2 nf bd151 z150 J151) (f_s_goOn V J Rr))) (μ := fun x : Int × (Nat → Nat → Int) => match x with | (z150, J151) => (476 - z150).toNat) (wsf := fun x : Int × (Nat → Nat → Int) => match x with | (z150, J151) => XW cy ad V J151 Rr) (lvf := fun x : Int × (Nat → Nat → Int) => match x with | (z150, J151) => [(1, vI z150), (0, .ref (ad 98))]) (fun x hI151x ih151 => ?_) (0, J) ⟨⟨by decide, by decide⟩, hJ, ⟨_, (by omega), hF⟩⟩ rfl rfl
  obtain ⟨z150, J151⟩ := x
  obtain ⟨bz150, hJ151, nf151, hn151, hF⟩ := hI151x
  try dsimp only
  obtain ⟨nf151, rfl⟩ : ∃ mm, nf151 = mm + 1 := ⟨nf151 - 1, (Nat.succ_pred_eq_of_pos (Nat.lt_of_le_of_lt (Nat.zero_le _) hn151)).symm⟩
  replace hF := hF.to (lop2_s hbd151)
  refine x_iload_n C.1 dX2_goOn_2 0 rfl ?_
  refine x_aload_n C.1 dX2_goOn_3 1 rfl ?_
  obtain ⟨z176, ez176, bz176⟩ := hI.rd 98 4 (x := 0) (y := 475) rfl
  replace hF := hF.to (rdb_e (z := z176) ez176)
  replace hF := hF.fc bz176
  refine x_getI C (N := 129) (i := 98) (by decide) rfl vc_X2 wx_X2 4 (by decide) wf_X2_176 rfl dX2_goOn_4 (a := z176) ez176 ?_
  refine x_icmp_ge C.1 (tgt := 28) dX2_goOn_7 (by decide) (by omega) (by omega) (fun hc181 => ?_) (fun hc181 => ?_)
  · replace hF := hF.to (if_pos hc181)
    refine x_aload_n C.1 dX2_goOn_28 1 rfl ?_
    obtain ⟨t182, et182, ht182⟩ := XR.w hR (k := 0) (by decide)
    replace hF := hF.to (rdb_e (z := t182) et182)
    refine x_getR C (N := 129) (i := 98) (by decide) rfl vc_X2 wx_X2 0 (by decide) wf_X2_11 rfl dX2_goOn_29 (a := t182) et182 ?_
    refine x_astore_n C.1 (lv' := [(1, .ref (ad t182)), (0, .ref (ad 98))]) dX2_goOn_32 (by decide) rfl ?_
    refine x_aload_n C.1 dX2_goOn_33 1 rfl ?_
    refine x_aload_n C.1 dX2_goOn_34 1 rfl ?_
    obtain ⟨t183, et183, ht183⟩ := XR.w hR (k := 1) (by decide)
    replace hF := hF.to (rdb_e (z := t183) et183)
    refine x_getR C (N := 129) (i := 98) (by decide) rfl vc_X2 wx_X2 1 (by decide) wf_X2_15 rfl dX2_goOn_35 (a := t183) et183 ?_
    refine x_putR C (N := 129) (i := 98) (by decide) rfl vc_X2 wx_X2 0 (by decide) wf_X2_11 tyX2 tyX2_ok nmX2 rfl (tyX2_ok 0 (by decide)) rfl dX2_goOn_38 rfl rfl ?_
    refine x_gR ?_
    intro R184 hRe184
    have hR184 : XR R184 := hR.up hRe184 (rf_w (by decide) ht183)
    replace hF := hF.to (rdb_e (z := R184) hRe184.symm)
    have hE184 : RK R184 Rr := RK.up (RK.rf _) hRe184 (by decide)
    refine x_aload_n C.1 dX2_goOn_41 1 rfl ?_
    refine x_aload_n C.1 dX2_goOn_42 0 rfl ?_
    refine x_putR C (N := 129) (i := 98) (by decide) rfl vc_X2 wx_X2 1 (by decide) wf_X2_15 tyX2 tyX2_ok nmX2 rfl (tyX2_ok 1 (by decide)) rfl dX2_goOn_43 rfl rfl ?_
    refine x_gR ?_
    intro R185 hRe185
    have hR185 : XR R185 := hR184.up hRe185 (rf_w (by decide) ht182)
    replace hF := hF.to (rdb_e (z := R185) hRe185.symm)
    have hE185 : RK R185 Rr := RK.up hE184 hRe185 (by decide)
    refine x_aload_n C.1 dX2_goOn_46 1 rfl ?_
    obtain ⟨t186, et186, ht186⟩ := XR.st hR185 (k := 2) (by decide)
    replace hF := hF.to (rdb_e (z := t186) et186)
    refine x_getR C (N := 129) (i := 98) (by decide) rfl vc_X2 wx_X2 2 (by decide) wf_X2_18 rfl dX2_goOn_47 (a := t186) et186 ?_
    refine x_astore_n C.1 (lv' := [(2, .ref (ad t186)), (1, .ref (ad t182)), (0, .ref (ad 98))]) dX2_goOn_50 (by decide) rfl ?_
    refine x_aload_n C.1 dX2_goOn_51 2 rfl ?_
    refine x_aload_n C.1 dX2_goOn_52 2 rfl ?_
    obtain ⟨t187, et187, ht187⟩ := XR.st hR185 (k := 3) (by decide)
    replace hF := hF.to (rdb_e (z := t187) et187)
    refine x_getR C (N := 129) (i := 98) (by decide) rfl vc_X2 wx_X2 3 (by decide) wf_X2_22 rfl dX2_goOn_53 (a := t187) et187 ?_
    refine x_putR C (N := 129) (i := 98) (by decide) rfl vc_X2 wx_X2 2 (by decide) wf_X2_18 tyX2 tyX2_ok nmX2 rfl (tyX2_ok 2 (by decide)) rfl dX2_goOn_56 rfl rfl ?_
    refine x_gR ?_
    intro R188 hRe188
    have hR188 : XR R188 := hR185.up hRe188 (rf_s (by decide) ht187)
    replace hF := hF.to (rdb_e (z := R188) hRe188.symm)
    have hE188 : RK R188 Rr := RK.up hE185 hRe188 (by decide)
    refine x_aload_n C.1 dX2_goOn_59 2 rfl ?_
    refine x_aload_n C.1 dX2_goOn_60 0 rfl ?_
    refine x_putR C (N := 129) (i := 98) (by decide) rfl vc_X2 wx_X2 3 (by decide) wf_X2_22 tyX2 tyX2_ok nmX2 rfl (tyX2_ok 3 (by decide)) rfl dX2_goOn_61 rfl rfl ?_
    refine x_gR ?_
    intro R189 hRe189
    have hR189 : XR R189 := hR188.up hRe189 (rf_s (by decide) ht186)
    replace hF := hF.to (rdb_e (z := R189) hRe189.symm)
    have hE189 : RK R189 Rr := RK.up hE188 hRe189 (by decide)
    refine x_aload_n C.1 dX2_goOn_64 2 rfl ?_
    refine x_aload_n C.1 dX2_goOn_65 2 rfl ?_
    obtain ⟨z190, ez190, bz190⟩ := hI.rd 98 5 (x := 0) (y := 475) rfl
    replace hF := hF.to (rdb_e (z := z190) ez190)
    replace hF := hF.fc bz190
    refine x_getI C (N := 129) (i := 98) (by decide) rfl vc_X2 wx_X2 5 (by decide) wf_X2_179 rfl dX2_goOn_66 (a := z190) ez190 ?_
    refine x_putI C (N := 129) (i := 98) (by decide) rfl vc_X2 wx_X2 4 (by decide) wf_X2_176 tyX2 tyX2_ok nmX2 rfl (tyX2_ok 4 (by decide)) rfl dX2_goOn_69 rfl rfl ?_
    refine x_gV ?_
    intro V191 hV191
    have hI191 : XI G V191 := hI.up hV191 rfl (by omega) rfl
    have hB191 := hB.up hV191 (⟨by decide, by decide⟩)
    replace hF := hF.to (rdb_e (z := V191) hV191.symm)
    refine x_aload_n C.1 dX2_goOn_72 2 rfl ?_
    refine x_iconst C.1 (n := 0) dX2_goOn_73 ?_
    refine x_putI C (N := 129) (i := 98) (by decide) rfl vc_X2 wx_X2 5 (by decide) wf_X2_179 tyX2 tyX2_ok nmX2 rfl (tyX2_ok 5 (by decide)) rfl dX2_goOn_74 rfl rfl ?_
    refine x_gV ?_
    intro V192 hV192
    have hI192 : XI G V192 := hI191.up hV192 rfl (by decide) rfl
    have hB192 := hB191.up hV192 (⟨by decide, by decide⟩)
    replace hF := hF.to (rdb_e (z := V192) hV192.symm)
    refine x_aload_n C.1 dX2_goOn_77 2 rfl ?_
    refine x_dup C.1 dX2_goOn_78 rfl ?_
    obtain ⟨z193, ez193, bz193⟩ := hJ151.rd 98 16
    replace hF := hF.to (rdb_e (z := z193) ez193)
    refine x_getJ C (N := 129) (i := 98) (by decide) rfl vc_X2 wx_X2 16 (by decide) wf_X2_117 rfl dX2_goOn_79 (a := z193) ez193 ?_
    refine x_ldc2 C.1 (n := 10) wq_X2_182 dX2_goOn_82 ?_
    refine x_lmul C.1 (v := 10 * z193) (by omega) dX2_goOn_85 ?_
    refine x_wrapJg ?_
    intro z194 bz194 ew194
    replace hF := hF.to (rdb_e (z := z194) ew194.symm)
    refine x_putJ C (N := 129) (i := 98) (by decide) rfl vc_X2 wx_X2 16 (by decide) wf_X2_117 tyX2 tyX2_ok nmX2 rfl (tyX2_ok 16 (by decide)) rfl dX2_goOn_86 rfl rfl ?_
    refine x_gJ ?_
    intro J195 hJe195
    have hJ195 : VJ J195 := hJ151.upS hJe195 (by omega)
    replace hF := hF.to (rdb_e (z := J195) hJe195.symm)
    exact x_vret (S := xS) (post := (fun u : xS => XS G u ∧ FB (fun i k : Nat => (98 ≤ i ∧ i ≤ 104)) V u.1 ∧ RK u.2.2 Rr ∧ (f_s_goOn V J Rr) u)) (w1 := (fun u : xS => XW cy ad u.1 u.2.1 u.2.2)) C hr rfl dX2_goOn_89 (V192, J195, R189) rfl ⟨⟨hI192, hJ195, hR189⟩, hB192, hE189, hF _ rfl⟩
  · replace hF := hF.to (if_neg hc181)
    refine x_aload_n C.1 dX2_goOn_10 1 rfl ?_
    obtain ⟨t196, et196, ht196⟩ := XR.w hR (k := 0) (by decide)
    replace hF := hF.to (rdb_e (z := t196) et196)
    refine x_getR C (N := 129) (i := 98) (by decide) rfl vc_X2 wx_X2 0 (by decide) wf_X2_11 rfl dX2_goOn_11 (a := t196) et196 ?_
    refine x_aload_n C.1 dX2_goOn_14 1 rfl ?_
    obtain ⟨t197, et197, ht197⟩ := XR.st hR (k := 2) (by decide)
    replace hF := hF.to (rdb_e (z := t197) et197)
    refine x_getR C (N := 129) (i := 98) (by decide) rfl vc_X2 wx_X2 2 (by decide) wf_X2_18 rfl dX2_goOn_15 (a := t197) et197 ?_
    refine x_iload_n C.1 dX2_goOn_18 0 rfl ?_
    obtain ⟨z198, ez198, bz198⟩ := hI.rd t197 z150.toNat (x := 0) (y := 474) (rg_St ht197 _)
    replace hF := hF.to (rdb_e (z := z198) ez198)
    replace hF := hF.fc bz198
    refine x_iald C (N := 129) (i := t197) (q := z150) (by omega) (xd_St ht197) (by omega) (by decide) dX2_goOn_19 (a := z198) ez198 ?_
    refine x_lconst0 C.1 dX2_goOn_20 ?_
    refine x_last C (N := 129) (i := t196) (q := z198) (a := 0) (by omega) (xd_Wt ht196) (by omega) (by decide) dX2_goOn_21 ?_
    refine x_gJ ?_
    intro J199 hJe199
    have hJ199 : VJ J199 := hJ151.upS hJe199 (by decide)
    replace hF := hF.to (rdb_e (z := J199) hJe199.symm)
    refine x_iinc C.1 (v := z150 + 1) (lv' := [(1, vI (z150 + 1)), (0, .ref (ad 98))]) (by omega) dX2_goOn_22 0 rfl (by decide) rfl ?_
    refine x_goto C.1 (tgt := 2) dX2_goOn_25 (by decide) ?_
    have hmu151 : (476 - (z150 + 1)).toNat < (476 - z150).toNat := (by omega)
    exact ih151 (z150 + 1, J199) ⟨⟨by omega, by omega⟩, hJ199, ⟨nf151, Nat.lt_of_lt_of_le hmu151 (Nat.le_of_lt_succ hn151), hF⟩⟩ hmu151
theorem dX2_lookAt_0 : decode cX2_lookAt 0 = .ok (.aload_n 1, 1) := by decide +kernel
theorem dX2_lookAt_1 : decode cX2_lookAt 1 = .ok (.bipush 102, 2) := by decide +kernel
theorem dX2_lookAt_3 : decode cX2_lookAt 3 = .ok (.iload_n 2, 1) := by decide +kernel
theorem dX2_lookAt_4 : decode cX2_lookAt 4 = .ok (.bipush 25, 2) := by decide +kernel
theorem dX2_lookAt_6 : decode cX2_lookAt 6 = .ok (.irem, 1) := by decide +kernel
theorem dX2_lookAt_7 : decode cX2_lookAt 7 = .ok (.invokevirtual 132, 3) := by decide +kernel
theorem dX2_lookAt_10 : decode cX2_lookAt 10 = .ok (.aload_n 1, 1) := by decide +kernel
theorem dX2_lookAt_11 : decode cX2_lookAt 11 = .ok (.bipush 121, 2) := by decide +kernel
theorem dX2_lookAt_13 : decode cX2_lookAt 13 = .ok (.iload_n 2, 1) := by decide +kernel
theorem dX2_lookAt_14 : decode cX2_lookAt 14 = .ok (.bipush 25, 2) := by decide +kernel
theorem dX2_lookAt_16 : decode cX2_lookAt 16 = .ok (.idiv, 1) := by decide +kernel
theorem dX2_lookAt_17 : decode cX2_lookAt 17 = .ok (.invokestatic 97, 3) := by decide +kernel
theorem dX2_lookAt_20 : decode cX2_lookAt 20 = .ok (.invokevirtual 132, 3) := by decide +kernel
theorem dX2_lookAt_23 : decode cX2_lookAt 23 = .ok (.aload_n 1, 1) := by decide +kernel
theorem dX2_lookAt_24 : decode cX2_lookAt 24 = .ok (.bipush 122, 2) := by decide +kernel
theorem dX2_lookAt_26 : decode cX2_lookAt 26 = .ok (.iload_n 2, 1) := by decide +kernel
theorem dX2_lookAt_27 : decode cX2_lookAt 27 = .ok (.bipush 25, 2) := by decide +kernel
theorem dX2_lookAt_29 : decode cX2_lookAt 29 = .ok (.idiv, 1) := by decide +kernel
theorem dX2_lookAt_30 : decode cX2_lookAt 30 = .ok (.invokestatic 101, 3) := by decide +kernel
theorem dX2_lookAt_33 : decode cX2_lookAt 33 = .ok (.invokevirtual 132, 3) := by decide +kernel
theorem dX2_lookAt_36 : decode cX2_lookAt 36 = .ok (.return_, 1) := by decide +kernel
set_option maxRecDepth 100000 in
def f_s_lookAt (x2 : Int) (V : Nat → Nat → Int) (J : Nat → Nat → Int) (Rr : Nat → Nat → Nat) : (Nat → Nat → Int) → Prop :=
  rdb (iRem x2 25) fun z1 => fct (-24 ≤ z1 ∧ z1 ≤ 24) <| calUX (fun i k : Nat => (69 ≤ i ∧ i ≤ 71)) V (f_s_putA 102 z1 V J Rr) fun V2 => rdb (iDiv x2 25) fun z3 => calR (f_s_dryOf z3) fun z4 => calUX (fun i k : Nat => (69 ≤ i ∧ i ≤ 71)) V2 (f_s_putA 121 z4 V2 J Rr) fun V5 => rdb (iDiv x2 25) fun z6 => calR (f_s_drownedOf z6) fun z7 => calUX (fun i k : Nat => (69 ≤ i ∧ i ≤ 71)) V5 (f_s_putA 122 z7 V5 J Rr) fun V8 => rtn V8
set_option maxHeartbeats 8000000 in
set_option maxRecDepth 100000 in
theorem s_lookAt (l : Launch) (D : va_G) (cy : Nat → ClassId) (ad : Nat → Nat) (G : Nat → Nat → Int) (V J : Nat → Nat → Int) (Rr : Nat → Nat → Nat) (hI : XI G V) (hJ : VJ J) (hR : XR Rr) (x2 : Int) (bx2 : -2147483648 ≤ x2 ∧ x2 ≤ 2147483647) : xMv l D (xTY cy) yX2_lookAt cX2_lookAt 3 none 1 23 0 0 [.ref (ad 98), .ref (ad 69), vI x2] (XW cy ad V J Rr) (fun u : Nat → Nat → Int => XW cy ad u J Rr) (fun u : Nat → Nat → Int => XI G u ∧ FB (fun i k : Nat => (69 ≤ i ∧ i ≤ 71)) V u ∧ (f_s_lookAt x2 V J Rr) u) := by
  refine xMv.mk (lv0 := [(0, .ref (ad 98)), (1, .ref (ad 69)), (2, vI x2)]) (by decide) rfl (Nat.le_of_ble_eq_true rfl) (fun p e s m below meth c A C hr hnm hAe => ?_)
  have C : xC2 p s m _ meth c D A s.heap 3 cX2_lookAt RX2 (xTY cy) := C
  have hB : FB (fun i k : Nat => (69 ≤ i ∧ i ≤ 71)) V V := FB.rf _ _
  have hF := Imp.of_eq (f_s_lookAt.eq_def x2 V J Rr)
  refine x_aload_n C.1 dX2_lookAt_0 1 rfl ?_
  refine x_bipush C.1 (n := 102) dX2_lookAt_1 ?_
  refine x_iload_n C.1 dX2_lookAt_3 2 rfl ?_
  refine x_bipush C.1 (n := 25) dX2_lookAt_4 ?_
  obtain ⟨z1, hz1, bz1⟩ : ∃ z : Int, iRem x2 25 = z ∧ (-24 ≤ z ∧ z ≤ 24) := ⟨_, rfl, iRem_m (by omega) (by omega)⟩
  replace hF := hF.to (rdb_e (z := z1) hz1)
  replace hF := hF.fc bz1
  refine x_irem C.1 (v := z1) hz1 dX2_lookAt_6 (by decide) (by decide) ?_
  refine x_callVv C (As := [vI 102, vI z1]) (rest := []) 69 (xw_at (N := 129) (i := 69) (by decide) rfl) vc_X0 (s_putA l D cy ad G V J Rr hI hJ hR 102 ⟨by decide, by decide⟩ z1 ⟨by omega, by omega⟩) (l1 := []) (l2 := []) (List.append_nil _).symm (w2 := fun u : Nat → Nat → Int => XW cy ad u J Rr) (fun _ => List.append_nil _) rfl wm_yX0_put wn_X0 wl_X2_132 wi_yX0_put we_yX0_put hd_yX0_put rfl ⟨Nat.le_of_ble_eq_true rfl, Nat.le_of_ble_eq_true rfl⟩ (Nat.le_of_ble_eq_true rfl) ⟨Nat.le_of_ble_eq_true rfl, Nat.le_of_ble_eq_true rfl⟩ dX2_lookAt_7 (fun V2 h2 => ?_)
  obtain ⟨hI2, hBc2, hFc2⟩ := h2
  replace hF := calUX_i hF hFc2 hBc2
  have hB2 := hB.tr hBc2 (fun i k h => (h))
  refine x_aload_n C.1 dX2_lookAt_10 1 rfl ?_
  refine x_bipush C.1 (n := 121) dX2_lookAt_11 ?_
  refine x_iload_n C.1 dX2_lookAt_13 2 rfl ?_
  refine x_bipush C.1 (n := 25) dX2_lookAt_14 ?_
  obtain ⟨z3, hz3, bz3⟩ : ∃ z : Int, iDiv x2 25 = z ∧ (-2147483648 ≤ z ∧ z ≤ 2147483647) := ⟨_, rfl, xi_r _⟩
  replace hF := hF.to (rdb_e (z := z3) hz3)
  refine x_idiv C.1 (v := z3) hz3 dX2_lookAt_16 (by decide) (by decide) ?_
  refine x_callSi C (As := [vI z3]) (rest := [vI 121, .ref (ad 69)]) (s_dryOf l D cy z3 ⟨by omega, by omega⟩) (l1 := []) (l2 := _) rfl (w2 := fun _ => _) (fun _ => rfl) rfl wm_yX2_dryOf wn_X2 wl_X2_97 wi_yX2_dryOf hd_yX2_dryOf rfl ⟨Nat.le_of_ble_eq_true rfl, Nat.le_of_ble_eq_true rfl⟩ (Nat.le_of_ble_eq_true rfl) ⟨Nat.le_of_ble_eq_true rfl, Nat.le_of_ble_eq_true rfl⟩ dX2_lookAt_17 (fun z4 u4 bz4 h4 => ?_)
  have hFc4 := h4
  replace hF := calR_i hF hFc4
  refine x_callVv C (As := [vI 121, vI z4]) (rest := []) 69 (xw_at (N := 129) (i := 69) (by decide) rfl) vc_X0 (s_putA l D cy ad G V2 J Rr hI2 hJ hR 121 ⟨by decide, by decide⟩ z4 ⟨by omega, by omega⟩) (l1 := []) (l2 := []) (List.append_nil _).symm (w2 := fun u : Nat → Nat → Int => XW cy ad u J Rr) (fun _ => List.append_nil _) rfl wm_yX0_put wn_X0 wl_X2_132 wi_yX0_put we_yX0_put hd_yX0_put rfl ⟨Nat.le_of_ble_eq_true rfl, Nat.le_of_ble_eq_true rfl⟩ (Nat.le_of_ble_eq_true rfl) ⟨Nat.le_of_ble_eq_true rfl, Nat.le_of_ble_eq_true rfl⟩ dX2_lookAt_20 (fun V5 h5 => ?_)
  obtain ⟨hI5, hBc5, hFc5⟩ := h5
  replace hF := calUX_i hF hFc5 hBc5
  have hB5 := hB2.tr hBc5 (fun i k h => (h))
  refine x_aload_n C.1 dX2_lookAt_23 1 rfl ?_
  refine x_bipush C.1 (n := 122) dX2_lookAt_24 ?_
  refine x_iload_n C.1 dX2_lookAt_26 2 rfl ?_
  refine x_bipush C.1 (n := 25) dX2_lookAt_27 ?_
  obtain ⟨z6, hz6, bz6⟩ : ∃ z : Int, iDiv x2 25 = z ∧ (-2147483648 ≤ z ∧ z ≤ 2147483647) := ⟨_, rfl, xi_r _⟩
  replace hF := hF.to (rdb_e (z := z6) hz6)
  refine x_idiv C.1 (v := z6) hz6 dX2_lookAt_29 (by decide) (by decide) ?_
  refine x_callSi C (As := [vI z6]) (rest := [vI 122, .ref (ad 69)]) (s_drownedOf l D cy z6 ⟨by omega, by omega⟩) (l1 := []) (l2 := _) rfl (w2 := fun _ => _) (fun _ => rfl) rfl wm_yX2_drownedOf wn_X2 wl_X2_101 wi_yX2_drownedOf hd_yX2_drownedOf rfl ⟨Nat.le_of_ble_eq_true rfl, Nat.le_of_ble_eq_true rfl⟩ (Nat.le_of_ble_eq_true rfl) ⟨Nat.le_of_ble_eq_true rfl, Nat.le_of_ble_eq_true rfl⟩ dX2_lookAt_30 (fun z7 u7 bz7 h7 => ?_)
  have hFc7 := h7
  replace hF := calR_i hF hFc7
  refine x_callVv C (As := [vI 122, vI z7]) (rest := []) 69 (xw_at (N := 129) (i := 69) (by decide) rfl) vc_X0 (s_putA l D cy ad G V5 J Rr hI5 hJ hR 122 ⟨by decide, by decide⟩ z7 ⟨by omega, by omega⟩) (l1 := []) (l2 := []) (List.append_nil _).symm (w2 := fun u : Nat → Nat → Int => XW cy ad u J Rr) (fun _ => List.append_nil _) rfl wm_yX0_put wn_X0 wl_X2_132 wi_yX0_put we_yX0_put hd_yX0_put rfl ⟨Nat.le_of_ble_eq_true rfl, Nat.le_of_ble_eq_true rfl⟩ (Nat.le_of_ble_eq_true rfl) ⟨Nat.le_of_ble_eq_true rfl, Nat.le_of_ble_eq_true rfl⟩ dX2_lookAt_33 (fun V8 h8 => ?_)
  obtain ⟨hI8, hBc8, hFc8⟩ := h8
  replace hF := calUX_i hF hFc8 hBc8
  have hB8 := hB5.tr hBc8 (fun i k h => (h))
  exact x_vret (S := (Nat → Nat → Int)) (post := (fun u : Nat → Nat → Int => XI G u ∧ FB (fun i k : Nat => (69 ≤ i ∧ i ≤ 71)) V u ∧ (f_s_lookAt x2 V J Rr) u)) (w1 := (fun u : Nat → Nat → Int => XW cy ad u J Rr)) C hr rfl dX2_lookAt_36 V8 rfl ⟨hI8, hB8, hF _ rfl⟩
theorem dX2_gift_0 : decode cX2_gift 0 = .ok (.aload_n 0, 1) := by decide +kernel
theorem dX2_gift_1 : decode cX2_gift 1 = .ok (.getfield 76, 3) := by decide +kernel
theorem dX2_gift_4 : decode cX2_gift 4 = .ok (.ifCond .le 20, 3) := by decide +kernel
theorem dX2_gift_7 : decode cX2_gift 7 = .ok (.iload_n 3, 1) := by decide +kernel
theorem dX2_gift_8 : decode cX2_gift 8 = .ok (.aload_n 0, 1) := by decide +kernel
theorem dX2_gift_9 : decode cX2_gift 9 = .ok (.getfield 94, 3) := by decide +kernel
theorem dX2_gift_12 : decode cX2_gift 12 = .ok (.if_icmp .ge 10, 3) := by decide +kernel
theorem dX2_gift_15 : decode cX2_gift 15 = .ok (.aload_n 0, 1) := by decide +kernel
theorem dX2_gift_16 : decode cX2_gift 16 = .ok (.getfield 76, 3) := by decide +kernel
theorem dX2_gift_19 : decode cX2_gift 19 = .ok (.goto 4, 3) := by decide +kernel
theorem dX2_gift_22 : decode cX2_gift 22 = .ok (.iconst 0, 1) := by decide +kernel
theorem dX2_gift_23 : decode cX2_gift 23 = .ok (.ireturn, 1) := by decide +kernel
theorem dX2_gift_24 : decode cX2_gift 24 = .ok (.aload_n 1, 1) := by decide +kernel
theorem dX2_gift_25 : decode cX2_gift 25 = .ok (.aload_n 2, 1) := by decide +kernel
theorem dX2_gift_26 : decode cX2_gift 26 = .ok (.bipush 103, 2) := by decide +kernel
theorem dX2_gift_28 : decode cX2_gift 28 = .ok (.bipush 9, 2) := by decide +kernel
theorem dX2_gift_30 : decode cX2_gift 30 = .ok (.invokevirtual 202, 3) := by decide +kernel
theorem dX2_gift_33 : decode cX2_gift 33 = .ok (.ireturn, 1) := by decide +kernel
set_option maxRecDepth 100000 in
def f_s_giftC (k2 : Nat) (x3 : Int) (V : Nat → Nat → Int) (J : Nat → Nat → Int) (Rr : Nat → Nat → Nat) : (Int × (Nat → Nat → Int)) → Prop :=
  rdb (V 98 15) fun z1 => (if z1 ≤ 0 then calVX (fun i k : Nat => (69 ≤ i ∧ i ≤ 71)) V (f_s_ask k2 103 9 V J Rr) fun z3 V3 => fct (0 ≤ z3 ∧ z3 ≤ 999) <| rtn (z3, V3) else rdb (V 98 14) fun z4 => (if z4 ≤ x3 then rtn (0, V) else rtn (z1, V)))
set_option maxHeartbeats 8000000 in
set_option maxRecDepth 100000 in
theorem s_giftC (l : Launch) (D : va_G) (cy : Nat → ClassId) (ad : Nat → Nat) (G : Nat → Nat → Int) (V J : Nat → Nat → Int) (Rr : Nat → Nat → Nat) (hI : XI G V) (hJ : VJ J) (hR : XR Rr) (k2 : Nat) (hk2 : isTx k2) (x3 : Int) (bx3 : -2147483648 ≤ x3 ∧ x3 ≤ 2147483647) : xMi l D (xTY cy) yX2_gift cX2_gift 4 (some .int) 3 76 0 0 [.ref (ad 98), .ref (ad 69), .ref (ad k2), vI x3] (XW cy ad V J Rr) (fun u : Nat → Nat → Int => XW cy ad u J Rr) (fun a (u : Nat → Nat → Int) => XI G u ∧ FB (fun i k : Nat => (69 ≤ i ∧ i ≤ 71)) V u ∧ (f_s_giftC k2 x3 V J Rr) (a, u)) := by
  refine xMi.mk (lv0 := [(0, .ref (ad 98)), (1, .ref (ad 69)), (2, .ref (ad k2)), (3, vI x3)]) (by decide) rfl (Nat.le_of_ble_eq_true rfl) (fun p e s m below meth c A C hr hnm hAe => ?_)
  have C : xC2 p s m _ meth c D A s.heap 4 cX2_gift RX2 (xTY cy) := C
  have hB : FB (fun i k : Nat => (69 ≤ i ∧ i ≤ 71)) V V := FB.rf _ _
  have hF := Imp.of_eq (f_s_giftC.eq_def k2 x3 V J Rr)
  refine x_aload_n C.1 dX2_gift_0 0 rfl ?_
  obtain ⟨z1, ez1, bz1⟩ := hI.rd 98 15 (x := -2147483648) (y := 2147483647) rfl
  replace hF := hF.to (rdb_e (z := z1) ez1)
  refine x_getI C (N := 129) (i := 98) (by decide) rfl vc_X2 wx_X2 15 (by decide) wf_X2_76 rfl dX2_gift_1 (a := z1) ez1 ?_
  refine x_if_le C.1 (tgt := 24) dX2_gift_4 (by decide) (by omega) (fun hc2 => ?_) (fun hc2 => ?_)
  · replace hF := hF.to (if_pos hc2)
    refine x_aload_n C.1 dX2_gift_24 1 rfl ?_
    refine x_aload_n C.1 dX2_gift_25 2 rfl ?_
    refine x_bipush C.1 (n := 103) dX2_gift_26 ?_
    refine x_bipush C.1 (n := 9) dX2_gift_28 ?_
    refine x_callVi C (As := [.ref (ad k2), vI 103, vI 9]) (rest := []) 69 (xw_at (N := 129) (i := 69) (by decide) rfl) vc_X0 (s_ask l D cy ad G V J Rr hI hJ hR k2 hk2 103 ⟨by decide, by decide⟩ 9 ⟨by decide, by decide⟩) (l1 := []) (l2 := []) (List.append_nil _).symm (w2 := fun u : Nat → Nat → Int => XW cy ad u J Rr) (fun _ => List.append_nil _) rfl wm_yX0_ask wn_X0 wl_X2_202 wi_yX0_ask we_yX0_ask hd_yX0_ask rfl ⟨Nat.le_of_ble_eq_true rfl, Nat.le_of_ble_eq_true rfl⟩ (Nat.le_of_ble_eq_true rfl) ⟨Nat.le_of_ble_eq_true rfl, Nat.le_of_ble_eq_true rfl⟩ dX2_gift_30 (fun z3 V3 bz3 h3 => ?_)
    obtain ⟨hI3, bq3, hBc3, hFc3⟩ := h3
    replace hF := calVX_i hF hFc3 hBc3
    replace hF := hF.fc bq3
    have hB3 := hB.tr hBc3 (fun i k h => (h))
    exact x_iret (S := (Nat → Nat → Int)) (post := (fun a (u : Nat → Nat → Int) => XI G u ∧ FB (fun i k : Nat => (69 ≤ i ∧ i ≤ 71)) V u ∧ (f_s_giftC k2 x3 V J Rr) (a, u))) (w1 := (fun u : Nat → Nat → Int => XW cy ad u J Rr)) (a := z3) C hr rfl dX2_gift_33 (by omega) V3 rfl ⟨hI3, hB3, hF _ rfl⟩
  · replace hF := hF.to (if_neg hc2)
    refine x_iload_n C.1 dX2_gift_7 3 rfl ?_
    refine x_aload_n C.1 dX2_gift_8 0 rfl ?_
    obtain ⟨z4, ez4, bz4⟩ := hI.rd 98 14 (x := -2147483648) (y := 2147483647) rfl
    replace hF := hF.to (rdb_e (z := z4) ez4)
    refine x_getI C (N := 129) (i := 98) (by decide) rfl vc_X2 wx_X2 14 (by decide) wf_X2_94 rfl dX2_gift_9 (a := z4) ez4 ?_
    refine x_icmp_ge C.1 (tgt := 22) dX2_gift_12 (by decide) (by omega) (by omega) (fun hc5 => ?_) (fun hc5 => ?_)
    · replace hF := hF.to (if_pos hc5)
      refine x_iconst C.1 (n := 0) dX2_gift_22 ?_
      exact x_iret (S := (Nat → Nat → Int)) (post := (fun a (u : Nat → Nat → Int) => XI G u ∧ FB (fun i k : Nat => (69 ≤ i ∧ i ≤ 71)) V u ∧ (f_s_giftC k2 x3 V J Rr) (a, u))) (w1 := (fun u : Nat → Nat → Int => XW cy ad u J Rr)) (a := 0) C hr rfl dX2_gift_23 (by decide) V rfl ⟨hI, hB, hF _ rfl⟩
    · replace hF := hF.to (if_neg hc5)
      refine x_aload_n C.1 dX2_gift_15 0 rfl ?_
      refine x_getI C (N := 129) (i := 98) (by decide) rfl vc_X2 wx_X2 15 (by decide) wf_X2_76 rfl dX2_gift_16 (a := z1) ez1 ?_
      refine x_goto C.1 (tgt := 23) dX2_gift_19 (by decide) ?_
      exact x_iret (S := (Nat → Nat → Int)) (post := (fun a (u : Nat → Nat → Int) => XI G u ∧ FB (fun i k : Nat => (69 ≤ i ∧ i ≤ 71)) V u ∧ (f_s_giftC k2 x3 V J Rr) (a, u))) (w1 := (fun u : Nat → Nat → Int => XW cy ad u J Rr)) (a := z1) C hr rfl dX2_gift_23 (by omega) V rfl ⟨hI, hB, hF _ rfl⟩
theorem hd_yX2_add : yX2_add.cls ≠ "java/lang/invoke/MethodHandle" ∧ yX2_add.cls ≠ "java/lang/invoke/VarHandle" ∧ (parseMethodDescriptor yX2_add.desc).map (fun d => d.parameters.length) = some 2 := by decide +kernel
theorem hd_yX2_gift : yX2_gift.cls ≠ "java/lang/invoke/MethodHandle" ∧ yX2_gift.cls ≠ "java/lang/invoke/VarHandle" ∧ (parseMethodDescriptor yX2_gift.desc).map (fun d => d.parameters.length) = some 3 := by decide +kernel
theorem hd_yX2_goOn : yX2_goOn.cls ≠ "java/lang/invoke/MethodHandle" ∧ yX2_goOn.cls ≠ "java/lang/invoke/VarHandle" ∧ (parseMethodDescriptor yX2_goOn.desc).map (fun d => d.parameters.length) = some 0 := by decide +kernel
theorem hd_yX2_isDead : yX2_isDead.cls ≠ "java/lang/invoke/MethodHandle" ∧ yX2_isDead.cls ≠ "java/lang/invoke/VarHandle" ∧ (parseMethodDescriptor yX2_isDead.desc).map (fun d => d.parameters.length) = some 1 := by decide +kernel
theorem hd_yX2_lookAt : yX2_lookAt.cls ≠ "java/lang/invoke/MethodHandle" ∧ yX2_lookAt.cls ≠ "java/lang/invoke/VarHandle" ∧ (parseMethodDescriptor yX2_lookAt.desc).map (fun d => d.parameters.length) = some 2 := by decide +kernel
theorem dX2_comeBy_0 : decode cX2_comeBy 0 = .ok (.iconst 0, 1) := by decide +kernel
theorem dX2_comeBy_1 : decode cX2_comeBy 1 = .ok (.istore 4, 2) := by decide +kernel
theorem dX2_comeBy_3 : decode cX2_comeBy 3 = .ok (.iload 4, 2) := by decide +kernel
theorem dX2_comeBy_5 : decode cX2_comeBy 5 = .ok (.aload_n 0, 1) := by decide +kernel
theorem dX2_comeBy_6 : decode cX2_comeBy 6 = .ok (.getfield 176, 3) := by decide +kernel
theorem dX2_comeBy_9 : decode cX2_comeBy 9 = .ok (.if_icmp .ge 116, 3) := by decide +kernel
theorem dX2_comeBy_12 : decode cX2_comeBy 12 = .ok (.aload_n 0, 1) := by decide +kernel
theorem dX2_comeBy_13 : decode cX2_comeBy 13 = .ok (.getfield 18, 3) := by decide +kernel
theorem dX2_comeBy_16 : decode cX2_comeBy 16 = .ok (.iload 4, 2) := by decide +kernel
theorem dX2_comeBy_18 : decode cX2_comeBy 18 = .ok (.iaload, 1) := by decide +kernel
theorem dX2_comeBy_19 : decode cX2_comeBy 19 = .ok (.istore 5, 2) := by decide +kernel
theorem dX2_comeBy_21 : decode cX2_comeBy 21 = .ok (.aload_n 0, 1) := by decide +kernel
theorem dX2_comeBy_22 : decode cX2_comeBy 22 = .ok (.iload 5, 2) := by decide +kernel
theorem dX2_comeBy_24 : decode cX2_comeBy 24 = .ok (.bipush 25, 2) := by decide +kernel
theorem dX2_comeBy_26 : decode cX2_comeBy 26 = .ok (.idiv, 1) := by decide +kernel
theorem dX2_comeBy_27 : decode cX2_comeBy 27 = .ok (.invokevirtual 190, 3) := by decide +kernel
theorem dX2_comeBy_30 : decode cX2_comeBy 30 = .ok (.ifCond .eq 7, 3) := by decide +kernel
theorem dX2_comeBy_33 : decode cX2_comeBy 33 = .ok (.iconst 0, 1) := by decide +kernel
theorem dX2_comeBy_34 : decode cX2_comeBy 34 = .ok (.goto 4, 3) := by decide +kernel
theorem dX2_comeBy_37 : decode cX2_comeBy 37 = .ok (.iload_n 3, 1) := by decide +kernel
theorem dX2_comeBy_38 : decode cX2_comeBy 38 = .ok (.istore 6, 2) := by decide +kernel
theorem dX2_comeBy_40 : decode cX2_comeBy 40 = .ok (.aload_n 0, 1) := by decide +kernel
theorem dX2_comeBy_41 : decode cX2_comeBy 41 = .ok (.iload 5, 2) := by decide +kernel
theorem dX2_comeBy_43 : decode cX2_comeBy 43 = .ok (.aload_n 0, 1) := by decide +kernel
theorem dX2_comeBy_44 : decode cX2_comeBy 44 = .ok (.getfield 11, 3) := by decide +kernel
theorem dX2_comeBy_47 : decode cX2_comeBy 47 = .ok (.iload 5, 2) := by decide +kernel
theorem dX2_comeBy_49 : decode cX2_comeBy 49 = .ok (.laload, 1) := by decide +kernel
theorem dX2_comeBy_50 : decode cX2_comeBy 50 = .ok (.bipush 10, 2) := by decide +kernel
theorem dX2_comeBy_52 : decode cX2_comeBy 52 = .ok (.iload 6, 2) := by decide +kernel
theorem dX2_comeBy_54 : decode cX2_comeBy 54 = .ok (.isub, 1) := by decide +kernel
theorem dX2_comeBy_55 : decode cX2_comeBy 55 = .ok (.i2l, 1) := by decide +kernel
theorem dX2_comeBy_56 : decode cX2_comeBy 56 = .ok (.lmul, 1) := by decide +kernel
theorem dX2_comeBy_57 : decode cX2_comeBy 57 = .ok (.invokevirtual 110, 3) := by decide +kernel
theorem dX2_comeBy_60 : decode cX2_comeBy 60 = .ok (.iload 6, 2) := by decide +kernel
theorem dX2_comeBy_62 : decode cX2_comeBy 62 = .ok (.ifCond .le 57, 3) := by decide +kernel
theorem dX2_comeBy_65 : decode cX2_comeBy 65 = .ok (.aload_n 0, 1) := by decide +kernel
theorem dX2_comeBy_66 : decode cX2_comeBy 66 = .ok (.aload_n 1, 1) := by decide +kernel
theorem dX2_comeBy_67 : decode cX2_comeBy 67 = .ok (.iload 5, 2) := by decide +kernel
theorem dX2_comeBy_69 : decode cX2_comeBy 69 = .ok (.invokevirtual 194, 3) := by decide +kernel
theorem dX2_comeBy_72 : decode cX2_comeBy 72 = .ok (.iload 5, 2) := by decide +kernel
theorem dX2_comeBy_74 : decode cX2_comeBy 74 = .ok (.bipush 25, 2) := by decide +kernel
theorem dX2_comeBy_76 : decode cX2_comeBy 76 = .ok (.irem, 1) := by decide +kernel
theorem dX2_comeBy_77 : decode cX2_comeBy 77 = .ok (.istore 7, 2) := by decide +kernel
theorem dX2_comeBy_79 : decode cX2_comeBy 79 = .ok (.aload_n 0, 1) := by decide +kernel
theorem dX2_comeBy_80 : decode cX2_comeBy 80 = .ok (.getfield 46, 3) := by decide +kernel
theorem dX2_comeBy_83 : decode cX2_comeBy 83 = .ok (.iload 7, 2) := by decide +kernel
theorem dX2_comeBy_85 : decode cX2_comeBy 85 = .ok (.isub, 1) := by decide +kernel
theorem dX2_comeBy_86 : decode cX2_comeBy 86 = .ok (.aload_n 0, 1) := by decide +kernel
theorem dX2_comeBy_87 : decode cX2_comeBy 87 = .ok (.aload_n 1, 1) := by decide +kernel
theorem dX2_comeBy_88 : decode cX2_comeBy 88 = .ok (.aload_n 2, 1) := by decide +kernel
theorem dX2_comeBy_89 : decode cX2_comeBy 89 = .ok (.iload 7, 2) := by decide +kernel
theorem dX2_comeBy_91 : decode cX2_comeBy 91 = .ok (.invokevirtual 198, 3) := by decide +kernel
theorem dX2_comeBy_94 : decode cX2_comeBy 94 = .ok (.invokestatic 68, 3) := by decide +kernel
theorem dX2_comeBy_97 : decode cX2_comeBy 97 = .ok (.istore 8, 2) := by decide +kernel
theorem dX2_comeBy_99 : decode cX2_comeBy 99 = .ok (.aload_n 0, 1) := by decide +kernel
theorem dX2_comeBy_100 : decode cX2_comeBy 100 = .ok (.iload 5, 2) := by decide +kernel
theorem dX2_comeBy_102 : decode cX2_comeBy 102 = .ok (.iload 8, 2) := by decide +kernel
theorem dX2_comeBy_104 : decode cX2_comeBy 104 = .ok (.iadd, 1) := by decide +kernel
theorem dX2_comeBy_105 : decode cX2_comeBy 105 = .ok (.aload_n 0, 1) := by decide +kernel
theorem dX2_comeBy_106 : decode cX2_comeBy 106 = .ok (.getfield 11, 3) := by decide +kernel
theorem dX2_comeBy_109 : decode cX2_comeBy 109 = .ok (.iload 5, 2) := by decide +kernel
theorem dX2_comeBy_111 : decode cX2_comeBy 111 = .ok (.laload, 1) := by decide +kernel
theorem dX2_comeBy_112 : decode cX2_comeBy 112 = .ok (.iload 6, 2) := by decide +kernel
theorem dX2_comeBy_114 : decode cX2_comeBy 114 = .ok (.i2l, 1) := by decide +kernel
theorem dX2_comeBy_115 : decode cX2_comeBy 115 = .ok (.lmul, 1) := by decide +kernel
theorem dX2_comeBy_116 : decode cX2_comeBy 116 = .ok (.invokevirtual 110, 3) := by decide +kernel
theorem dX2_comeBy_119 : decode cX2_comeBy 119 = .ok (.iinc 4 1, 3) := by decide +kernel
theorem dX2_comeBy_122 : decode cX2_comeBy 122 = .ok (.goto (-119), 3) := by decide +kernel
theorem dX2_comeBy_125 : decode cX2_comeBy 125 = .ok (.aload_n 0, 1) := by decide +kernel
theorem dX2_comeBy_126 : decode cX2_comeBy 126 = .ok (.invokevirtual 114, 3) := by decide +kernel
theorem dX2_comeBy_129 : decode cX2_comeBy 129 = .ok (.return_, 1) := by decide +kernel
set_option maxRecDepth 100000 in
def f_s_comeBy (k2 : Nat) (x3 : Int) (V : Nat → Nat → Int) (J : Nat → Nat → Int) (Rr : Nat → Nat → Nat) : (xS) → Prop :=
  lop4 (477) (fun rc457 (z456 : Int) (V457 : Nat → Nat → Int) (J457 : Nat → Nat → Int) (R457 : Nat → Nat → Nat) => rdb (V457 98 4) fun z533 => fct (0 ≤ z533 ∧ z533 ≤ 475) <| (if z533 ≤ z456 then calTX (fun i k : Nat => (98 ≤ i ∧ i ≤ 104)) V457 (f_s_goOn V457 J457 R457) fun V571 J571 R571 => rtn (V571, J571, R571) else rdb (R457 98 2) fun t572 => rdb (V457 t572 z456.toNat) fun z573 => fct (0 ≤ z573 ∧ z573 ≤ 474) <| rdb (iDiv z573 25) fun z574 => fct (0 ≤ z574 ∧ z574 ≤ 474) <| calR (f_s_isDeadC z574 V457 J457 R457) fun z575 => fct (0 ≤ z575 ∧ z575 ≤ 1) <| jnk (fun (z576 : Int) => rdb (R457 98 0) fun t578 => rdb (J457 t578 z573.toNat) fun z579 => rdb (wr (-z576 + 10)) fun z580 => rdb (wrJ (z579 * z580)) fun z581 => calTX (fun i k : Nat => (98 ≤ i ∧ i ≤ 104)) V457 (f_s_addC z573 z581 V457 J457 R457) fun V582 J582 R582 => jnk (fun (V594 : Nat → Nat → Int) (J594 : Nat → Nat → Int) (R594 : Nat → Nat → Nat) => rc457 (z456 + 1) V594 J594 R594) fun jf594 => (if z576 ≤ 0 then jf594 V582 J582 R582 else calUX (fun i k : Nat => (69 ≤ i ∧ i ≤ 71)) V582 (f_s_lookAt z573 V582 J582 R582) fun V596 => rdb (iRem z573 25) fun z597 => fct (0 ≤ z597 ∧ z597 ≤ 24) <| rdb (V596 98 10) fun z598 => rdb (wr (z598 - z597)) fun z599 => calVX (fun i k : Nat => (69 ≤ i ∧ i ≤ 71)) V596 (f_s_giftC k2 z597 V596 J582 R582) fun z600 V600 => rdb (min z599 z600) fun z601 => rdb (wr (z573 + z601)) fun z602 => rdb (R582 98 0) fun t603 => rdb (J582 t603 z573.toNat) fun z604 => rdb (wrJ (z604 * z576)) fun z605 => calTX (fun i k : Nat => (98 ≤ i ∧ i ≤ 104)) V600 (f_s_addC z602 z605 V600 J582 R582) fun V606 J606 R606 => jf594 V606 J606 R606)) fun jf577 => (if z575 = 0 then jf577 x3 else jf577 0))) 0 V J Rr
set_option maxHeartbeats 8000000 in
set_option maxRecDepth 100000 in
theorem s_comeBy (l : Launch) (D : va_G) (cy : Nat → ClassId) (ad : Nat → Nat) (G : Nat → Nat → Int) (V J : Nat → Nat → Int) (Rr : Nat → Nat → Nat) (hI : XI G V) (hJ : VJ J) (hR : XR Rr) (k2 : Nat) (hk2 : isTx k2) (x3 : Int) (bx3 : -2147483648 ≤ x3 ∧ x3 ≤ 2147483647) : xMv l D (xTY cy) yX2_comeBy cX2_comeBy 9 none 4 99 0 0 [.ref (ad 98), .ref (ad 69), .ref (ad k2), vI x3] (XW cy ad V J Rr) (fun u : xS => XW cy ad u.1 u.2.1 u.2.2) (fun u : xS => XS G u ∧ FB (fun i k : Nat => (98 ≤ i ∧ i ≤ 104) ∨ (69 ≤ i ∧ i ≤ 71)) V u.1 ∧ RK u.2.2 Rr ∧ (f_s_comeBy k2 x3 V J Rr) u) := by
  refine xMv.mk (lv0 := [(0, .ref (ad 98)), (1, .ref (ad 69)), (2, .ref (ad k2)), (3, vI x3)]) (by decide) rfl (Nat.le_of_ble_eq_true rfl) (fun p e s m below meth c A C hr hnm hAe => ?_)
  have C : xC2 p s m _ meth c D A s.heap 9 cX2_comeBy RX2 (xTY cy) := C
  have hB : FB (fun i k : Nat => (98 ≤ i ∧ i ≤ 104) ∨ (69 ≤ i ∧ i ≤ 71)) V V := FB.rf _ _
  have hF := Imp.of_eq (f_s_comeBy.eq_def k2 x3 V J Rr)
  refine x_iconst C.1 (n := 0) dX2_comeBy_0 ?_
  refine x_istore C.1 (lv' := [(4, vI 0), (0, .ref (ad 98)), (1, .ref (ad 69)), (2, .ref (ad k2)), (3, vI x3)]) dX2_comeBy_1 (by decide) rfl ?_
  obtain ⟨bd457, hbd457, hF⟩ := lop4_ex hF
  refine x_loop (I := fun x : Int × (Nat → Nat → Int) × (Nat → Nat → Int) × (Nat → Nat → Nat) => match x with | (z456, V457, J457, R457) => (0 ≤ z456 ∧ z456 ≤ 475) ∧ XI G V457 ∧ FB (fun i k : Nat => (98 ≤ i ∧ i ≤ 104) ∨ (69 ≤ i ∧ i ≤ 71)) V V457 ∧ VJ J457 ∧ XR R457 ∧ RK R457 Rr ∧ (∃ nf : Nat, (476 - z456).toNat < nf ∧ Imp (lop4 nf bd457 z456 V457 J457 R457) (f_s_comeBy k2 x3 V J Rr))) (μ := fun x : Int × (Nat → Nat → Int) × (Nat → Nat → Int) × (Nat → Nat → Nat) => match x with | (z456, V457, J457, R457) => (476 - z456).toNat) (wsf := fun x : Int × (Nat → Nat → Int) × (Nat → Nat → Int) × (Nat → Nat → Nat) => match x with | (z456, V457, J457, R457) => XW cy ad V457 J457 R457) (lvf := fun x : Int × (Nat → Nat → Int) × (Nat → Nat → Int) × (Nat → Nat → Nat) => match x with | (z456, V457, J457, R457) => [(4, vI z456), (0, .ref (ad 98)), (1, .ref (ad 69)), (2, .ref (ad k2)), (3, vI x3)]) (fun x hI457x ih457 => ?_) (0, V, J, Rr) ⟨⟨by decide, by decide⟩, hI, hB, hJ, hR, (RK.rf _), ⟨_, (by omega), hF⟩⟩ rfl rfl
  obtain ⟨z456, V457, J457, R457⟩ := x
  obtain ⟨bz456, hI457, hB457, hJ457, hR457, hE457, nf457, hn457, hF⟩ := hI457x
  try dsimp only
  obtain ⟨nf457, rfl⟩ : ∃ mm, nf457 = mm + 1 := ⟨nf457 - 1, (Nat.succ_pred_eq_of_pos (Nat.lt_of_le_of_lt (Nat.zero_le _) hn457)).symm⟩
  replace hF := hF.to (lop4_s hbd457)
  refine x_iload C.1 dX2_comeBy_3 0 rfl ?_
  refine x_aload_n C.1 dX2_comeBy_5 1 rfl ?_
  obtain ⟨z533, ez533, bz533⟩ := hI457.rd 98 4 (x := 0) (y := 475) rfl
  replace hF := hF.to (rdb_e (z := z533) ez533)
  replace hF := hF.fc bz533
  refine x_getI C (N := 129) (i := 98) (by decide) rfl vc_X2 wx_X2 4 (by decide) wf_X2_176 rfl dX2_comeBy_6 (a := z533) ez533 ?_
  refine x_icmp_ge C.1 (tgt := 125) dX2_comeBy_9 (by decide) (by omega) (by omega) (fun hc570 => ?_) (fun hc570 => ?_)
  · replace hF := hF.to (if_pos hc570)
    refine x_aload_n C.1 dX2_comeBy_125 1 rfl ?_
    refine x_callVv C (As := []) (rest := []) 98 (xw_at (N := 129) (i := 98) (by decide) rfl) vc_X2 (s_goOn l D cy ad G V457 J457 R457 hI457 hJ457 hR457 ) (l1 := []) (l2 := []) (List.append_nil _).symm (w2 := fun u : xS => XW cy ad u.1 u.2.1 u.2.2) (fun _ => List.append_nil _) rfl wm_yX2_goOn wn_X2 wl_X2_114 wi_yX2_goOn we_yX2_goOn hd_yX2_goOn rfl ⟨Nat.le_of_ble_eq_true rfl, Nat.le_of_ble_eq_true rfl⟩ (Nat.le_of_ble_eq_true rfl) ⟨Nat.le_of_ble_eq_true rfl, Nat.le_of_ble_eq_true rfl⟩ dX2_comeBy_126 (fun u571 h571 => ?_)
    obtain ⟨V571, J571, R571⟩ := u571
    obtain ⟨hS571, hBc571, hEc571, hFc571⟩ := h571
    replace hF := calTX_i hF hFc571 hBc571
    have hB571 := hB457.tr hBc571 (fun i k h => (Or.inl h))
    have hE571 : RK R571 Rr := RK.tr hE457 hEc571
    obtain ⟨hI571, hJ571, hR571⟩ := hS571
    dsimp only at hI571 hJ571 hR571 ⊢
    exact x_vret (S := xS) (post := (fun u : xS => XS G u ∧ FB (fun i k : Nat => (98 ≤ i ∧ i ≤ 104) ∨ (69 ≤ i ∧ i ≤ 71)) V u.1 ∧ RK u.2.2 Rr ∧ (f_s_comeBy k2 x3 V J Rr) u)) (w1 := (fun u : xS => XW cy ad u.1 u.2.1 u.2.2)) C hr rfl dX2_comeBy_129 (V571, J571, R571) rfl ⟨⟨hI571, hJ571, hR571⟩, hB571, hE571, hF _ rfl⟩
  · replace hF := hF.to (if_neg hc570)
    refine x_aload_n C.1 dX2_comeBy_12 1 rfl ?_
    obtain ⟨t572, et572, ht572⟩ := XR.st hR457 (k := 2) (by decide)
    replace hF := hF.to (rdb_e (z := t572) et572)
    refine x_getR C (N := 129) (i := 98) (by decide) rfl vc_X2 wx_X2 2 (by decide) wf_X2_18 rfl dX2_comeBy_13 (a := t572) et572 ?_
    refine x_iload C.1 dX2_comeBy_16 0 rfl ?_
    obtain ⟨z573, ez573, bz573⟩ := hI457.rd t572 z456.toNat (x := 0) (y := 474) (rg_St ht572 _)
    replace hF := hF.to (rdb_e (z := z573) ez573)
    replace hF := hF.fc bz573
    refine x_iald C (N := 129) (i := t572) (q := z456) (by omega) (xd_St ht572) (by omega) (by decide) dX2_comeBy_18 (a := z573) ez573 ?_
    refine x_istore C.1 (lv' := [(5, vI z573), (4, vI z456), (0, .ref (ad 98)), (1, .ref (ad 69)), (2, .ref (ad k2)), (3, vI x3)]) dX2_comeBy_19 (by decide) rfl ?_
    refine x_aload_n C.1 dX2_comeBy_21 2 rfl ?_
    refine x_iload C.1 dX2_comeBy_22 0 rfl ?_
    refine x_bipush C.1 (n := 25) dX2_comeBy_24 ?_
    obtain ⟨z574, hz574, bz574⟩ : ∃ z : Int, iDiv z573 25 = z ∧ (0 ≤ z ∧ z ≤ 474) := ⟨_, rfl, iDiv_n (by omega) (by omega)⟩
    replace hF := hF.to (rdb_e (z := z574) hz574)
    replace hF := hF.fc bz574
    refine x_idiv C.1 (v := z574) hz574 dX2_comeBy_26 (by decide) (by decide) ?_
    refine x_callVi C (As := [vI z574]) (rest := []) 98 (xw_at (N := 129) (i := 98) (by decide) rfl) vc_X2 (s_isDeadC l D cy ad G V457 J457 R457 hI457 hJ457 hR457 z574 ⟨by omega, by omega⟩) (l1 := []) (l2 := []) (List.append_nil _).symm (w2 := fun _ => XW cy ad V457 J457 R457) (fun _ => List.append_nil _) rfl wm_yX2_isDead wn_X2 wl_X2_190 wi_yX2_isDead we_yX2_isDead hd_yX2_isDead rfl ⟨Nat.le_of_ble_eq_true rfl, Nat.le_of_ble_eq_true rfl⟩ (Nat.le_of_ble_eq_true rfl) ⟨Nat.le_of_ble_eq_true rfl, Nat.le_of_ble_eq_true rfl⟩ dX2_comeBy_27 (fun z575 u575 bz575 h575 => ?_)
    obtain ⟨bq575, hFc575⟩ := h575
    replace hF := calR_i hF hFc575
    replace hF := hF.fc bq575
    obtain ⟨jf577, hjf577, hF⟩ := jn_ex hF
    refine x_join (I := fun z576 : Int => (-2147483648 ≤ z576 ∧ z576 ≤ 2147483647) ∧ Imp (jf577 z576) (f_s_comeBy k2 x3 V J Rr)) (wsf := fun z576 : Int => XW cy ad V457 J457 R457) (lvf := fun z576 : Int => [(5, vI z573), (4, vI z456), (0, .ref (ad 98)), (1, .ref (ad 69)), (2, .ref (ad k2)), (3, vI x3)]) (stf := fun z576 : Int => [vI z576]) 38 (fun z576 hI577x => ?_) (fun jn577 => ?_)
    · obtain ⟨bz576, hF⟩ := hI577x
      try dsimp only
      replace hF := hF.to (jn_s1 hjf577)
      refine x_istore C.1 (lv' := [(6, vI z576), (5, vI z573), (4, vI z456), (0, .ref (ad 98)), (1, .ref (ad 69)), (2, .ref (ad k2)), (3, vI x3)]) dX2_comeBy_38 (by decide) rfl ?_
      refine x_aload_n C.1 dX2_comeBy_40 3 rfl ?_
      refine x_iload C.1 dX2_comeBy_41 1 rfl ?_
      refine x_aload_n C.1 dX2_comeBy_43 3 rfl ?_
      obtain ⟨t578, et578, ht578⟩ := XR.w hR457 (k := 0) (by decide)
      replace hF := hF.to (rdb_e (z := t578) et578)
      refine x_getR C (N := 129) (i := 98) (by decide) rfl vc_X2 wx_X2 0 (by decide) wf_X2_11 rfl dX2_comeBy_44 (a := t578) et578 ?_
      refine x_iload C.1 dX2_comeBy_47 1 rfl ?_
      obtain ⟨z579, ez579, bz579⟩ := hJ457.rd t578 z573.toNat
      replace hF := hF.to (rdb_e (z := z579) ez579)
      refine x_lald C (N := 129) (i := t578) (q := z573) (by omega) (xd_Wt ht578) (by omega) (by decide) dX2_comeBy_49 (a := z579) ez579 ?_
      refine x_bipush C.1 (n := 10) dX2_comeBy_50 ?_
      refine x_iload C.1 dX2_comeBy_52 0 rfl ?_
      refine x_isub C.1 (v := -z576 + 10) (by omega) dX2_comeBy_54 ?_
      refine x_wrapg ?_
      intro z580 bz580 ew580
      replace hF := hF.to (rdb_e (z := z580) ew580.symm)
      refine x_i2l C.1 dX2_comeBy_55 (by omega) ?_
      refine x_lmul C.1 rfl dX2_comeBy_56 ?_
      refine x_wrapJg ?_
      intro z581 bz581 ew581
      replace hF := hF.to (rdb_e (z := z581) ew581.symm)
      refine x_callVv C (As := [vI z573, vJ z581]) (rest := []) 98 (xw_at (N := 129) (i := 98) (by decide) rfl) vc_X2 (s_addC l D cy ad G V457 J457 R457 hI457 hJ457 hR457 z573 ⟨by omega, by omega⟩ z581 ⟨by omega, by omega⟩) (l1 := []) (l2 := []) (List.append_nil _).symm (w2 := fun u : xS => XW cy ad u.1 u.2.1 u.2.2) (fun _ => List.append_nil _) rfl wm_yX2_add wn_X2 wl_X2_110 wi_yX2_add we_yX2_add hd_yX2_add rfl ⟨Nat.le_of_ble_eq_true rfl, Nat.le_of_ble_eq_true rfl⟩ (Nat.le_of_ble_eq_true rfl) ⟨Nat.le_of_ble_eq_true rfl, Nat.le_of_ble_eq_true rfl⟩ dX2_comeBy_57 (fun u582 h582 => ?_)
      obtain ⟨V582, J582, R582⟩ := u582
      obtain ⟨hS582, hBc582, hEc582, hFc582⟩ := h582
      replace hF := calTX_i hF hFc582 hBc582
      have hB582 := hB457.tr hBc582 (fun i k h => (Or.inl h))
      have hE582 : RK R582 Rr := RK.tr hE457 hEc582
      obtain ⟨hI582, hJ582, hR582⟩ := hS582
      dsimp only at hI582 hJ582 hR582 ⊢
      refine x_iload C.1 dX2_comeBy_60 0 rfl ?_
      obtain ⟨jf594, hjf594, hF⟩ := jn_ex hF
      refine x_join (I := fun x : (Nat → Nat → Int) × (Nat → Nat → Int) × (Nat → Nat → Nat) => match x with | (V594, J594, R594) => XI G V594 ∧ FB (fun i k : Nat => (98 ≤ i ∧ i ≤ 104) ∨ (69 ≤ i ∧ i ≤ 71)) V V594 ∧ VJ J594 ∧ XR R594 ∧ RK R594 Rr ∧ Imp (jf594 V594 J594 R594) (f_s_comeBy k2 x3 V J Rr)) (wsf := fun x : (Nat → Nat → Int) × (Nat → Nat → Int) × (Nat → Nat → Nat) => match x with | (V594, J594, R594) => XW cy ad V594 J594 R594) (lvf := fun x : (Nat → Nat → Int) × (Nat → Nat → Int) × (Nat → Nat → Nat) => match x with | (V594, J594, R594) => [(6, vI z576), (5, vI z573), (4, vI z456), (0, .ref (ad 98)), (1, .ref (ad 69)), (2, .ref (ad k2)), (3, vI x3)]) (stf := fun x : (Nat → Nat → Int) × (Nat → Nat → Int) × (Nat → Nat → Nat) => match x with | (V594, J594, R594) => []) 119 (fun x hI594x => ?_) (fun jn594 => ?_)
      · obtain ⟨V594, J594, R594⟩ := x
        obtain ⟨hI594, hB594, hJ594, hR594, hE594, hF⟩ := hI594x
        try dsimp only
        replace hF := hF.to (jn_s3 hjf594)
        refine x_iinc C.1 (v := z456 + 1) (lv' := [(4, vI (z456 + 1)), (6, vI z576), (5, vI z573), (0, .ref (ad 98)), (1, .ref (ad 69)), (2, .ref (ad k2)), (3, vI x3)]) (by omega) dX2_comeBy_119 2 rfl (by decide) rfl ?_
        refine x_goto C.1 (tgt := 3) dX2_comeBy_122 (by decide) ?_
        refine x_lv [(4, vI (z456 + 1)), (0, .ref (ad 98)), (1, .ref (ad 69)), (2, .ref (ad k2)), (3, vI x3)] [0, 3, 4, 5, 6] rfl ?_
        have hmu457 : (476 - (z456 + 1)).toNat < (476 - z456).toNat := (by omega)
        exact ih457 (z456 + 1, V594, J594, R594) ⟨⟨by omega, by omega⟩, hI594, hB594, hJ594, hR594, hE594, ⟨nf457, Nat.lt_of_lt_of_le hmu457 (Nat.le_of_lt_succ hn457), hF⟩⟩ hmu457
      · refine x_if_le C.1 (tgt := 119) dX2_comeBy_62 (by decide) (by omega) (fun hc595 => ?_) (fun hc595 => ?_)
        · replace hF := hF.to (if_pos hc595)
          exact jn594 (V582, J582, R582) ⟨hI582, hB582, hJ582, hR582, hE582, hF⟩
        · replace hF := hF.to (if_neg hc595)
          refine x_aload_n C.1 dX2_comeBy_65 3 rfl ?_
          refine x_aload_n C.1 dX2_comeBy_66 4 rfl ?_
          refine x_iload C.1 dX2_comeBy_67 1 rfl ?_
          refine x_callVv C (As := [.ref (ad 69), vI z573]) (rest := []) 98 (xw_at (N := 129) (i := 98) (by decide) rfl) vc_X2 (s_lookAt l D cy ad G V582 J582 R582 hI582 hJ582 hR582 z573 ⟨by omega, by omega⟩) (l1 := []) (l2 := []) (List.append_nil _).symm (w2 := fun u : Nat → Nat → Int => XW cy ad u J582 R582) (fun _ => List.append_nil _) rfl wm_yX2_lookAt wn_X2 wl_X2_194 wi_yX2_lookAt we_yX2_lookAt hd_yX2_lookAt rfl ⟨Nat.le_of_ble_eq_true rfl, Nat.le_of_ble_eq_true rfl⟩ (Nat.le_of_ble_eq_true rfl) ⟨Nat.le_of_ble_eq_true rfl, Nat.le_of_ble_eq_true rfl⟩ dX2_comeBy_69 (fun V596 h596 => ?_)
          obtain ⟨hI596, hBc596, hFc596⟩ := h596
          replace hF := calUX_i hF hFc596 hBc596
          have hB596 := hB582.tr hBc596 (fun i k h => (Or.inr (h)))
          refine x_iload C.1 dX2_comeBy_72 1 rfl ?_
          refine x_bipush C.1 (n := 25) dX2_comeBy_74 ?_
          obtain ⟨z597, hz597, bz597⟩ : ∃ z : Int, iRem z573 25 = z ∧ (0 ≤ z ∧ z ≤ 24) := ⟨_, rfl, iRem_n (by omega) (by omega)⟩
          replace hF := hF.to (rdb_e (z := z597) hz597)
          replace hF := hF.fc bz597
          refine x_irem C.1 (v := z597) hz597 dX2_comeBy_76 (by decide) (by decide) ?_
          refine x_istore C.1 (lv' := [(7, vI z597), (6, vI z576), (5, vI z573), (4, vI z456), (0, .ref (ad 98)), (1, .ref (ad 69)), (2, .ref (ad k2)), (3, vI x3)]) dX2_comeBy_77 (by decide) rfl ?_
          refine x_aload_n C.1 dX2_comeBy_79 4 rfl ?_
          obtain ⟨z598, ez598, bz598⟩ := hI596.rd 98 10 (x := -2147483648) (y := 2147483647) rfl
          replace hF := hF.to (rdb_e (z := z598) ez598)
          refine x_getI C (N := 129) (i := 98) (by decide) rfl vc_X2 wx_X2 10 (by decide) wf_X2_46 rfl dX2_comeBy_80 (a := z598) ez598 ?_
          refine x_iload C.1 dX2_comeBy_83 0 rfl ?_
          refine x_isub C.1 (v := z598 - z597) (by omega) dX2_comeBy_85 ?_
          refine x_wrapg ?_
          intro z599 bz599 ew599
          replace hF := hF.to (rdb_e (z := z599) ew599.symm)
          refine x_aload_n C.1 dX2_comeBy_86 4 rfl ?_
          refine x_aload_n C.1 dX2_comeBy_87 5 rfl ?_
          refine x_aload_n C.1 dX2_comeBy_88 6 rfl ?_
          refine x_iload C.1 dX2_comeBy_89 0 rfl ?_
          refine x_callVi C (As := [.ref (ad 69), .ref (ad k2), vI z597]) (rest := [vI z599]) 98 (xw_at (N := 129) (i := 98) (by decide) rfl) vc_X2 (s_giftC l D cy ad G V596 J582 R582 hI596 hJ582 hR582 k2 hk2 z597 ⟨by omega, by omega⟩) (l1 := []) (l2 := []) (List.append_nil _).symm (w2 := fun u : Nat → Nat → Int => XW cy ad u J582 R582) (fun _ => List.append_nil _) rfl wm_yX2_gift wn_X2 wl_X2_198 wi_yX2_gift we_yX2_gift hd_yX2_gift rfl ⟨Nat.le_of_ble_eq_true rfl, Nat.le_of_ble_eq_true rfl⟩ (Nat.le_of_ble_eq_true rfl) ⟨Nat.le_of_ble_eq_true rfl, Nat.le_of_ble_eq_true rfl⟩ dX2_comeBy_91 (fun z600 V600 bz600 h600 => ?_)
          obtain ⟨hI600, hBc600, hFc600⟩ := h600
          replace hF := calVX_i hF hFc600 hBc600
          have hB600 := hB596.tr hBc600 (fun i k h => (Or.inr (h)))
          refine x_mmin C wl_X2_68 (by omega) (by omega) dX2_comeBy_94 ⟨Nat.le_of_ble_eq_true rfl, Nat.le_of_ble_eq_true rfl⟩ (Nat.le_of_ble_eq_true rfl) ⟨Nat.le_of_ble_eq_true rfl, Nat.le_of_ble_eq_true rfl⟩ (fun z601 hx601 => ?_)
          have bz601 : -2147483648 ≤ z601 ∧ z601 ≤ 2147483647 := by omega
          replace hF := hF.to (rdb_e (z := z601) (by omega))
          clear hx601
          refine x_istore C.1 (lv' := [(8, vI z601), (7, vI z597), (6, vI z576), (5, vI z573), (4, vI z456), (0, .ref (ad 98)), (1, .ref (ad 69)), (2, .ref (ad k2)), (3, vI x3)]) dX2_comeBy_97 (by decide) rfl ?_
          refine x_aload_n C.1 dX2_comeBy_99 5 rfl ?_
          refine x_iload C.1 dX2_comeBy_100 3 rfl ?_
          refine x_iload C.1 dX2_comeBy_102 0 rfl ?_
          refine x_iadd C.1 (v := z573 + z601) (by omega) dX2_comeBy_104 ?_
          refine x_wrapg ?_
          intro z602 bz602 ew602
          replace hF := hF.to (rdb_e (z := z602) ew602.symm)
          refine x_aload_n C.1 dX2_comeBy_105 5 rfl ?_
          obtain ⟨t603, et603, ht603⟩ := XR.w hR582 (k := 0) (by decide)
          replace hF := hF.to (rdb_e (z := t603) et603)
          refine x_getR C (N := 129) (i := 98) (by decide) rfl vc_X2 wx_X2 0 (by decide) wf_X2_11 rfl dX2_comeBy_106 (a := t603) et603 ?_
          refine x_iload C.1 dX2_comeBy_109 3 rfl ?_
          obtain ⟨z604, ez604, bz604⟩ := hJ582.rd t603 z573.toNat
          replace hF := hF.to (rdb_e (z := z604) ez604)
          refine x_lald C (N := 129) (i := t603) (q := z573) (by omega) (xd_Wt ht603) (by omega) (by decide) dX2_comeBy_111 (a := z604) ez604 ?_
          refine x_iload C.1 dX2_comeBy_112 2 rfl ?_
          refine x_i2l C.1 dX2_comeBy_114 (by omega) ?_
          refine x_lmul C.1 rfl dX2_comeBy_115 ?_
          refine x_wrapJg ?_
          intro z605 bz605 ew605
          replace hF := hF.to (rdb_e (z := z605) ew605.symm)
          refine x_callVv C (As := [vI z602, vJ z605]) (rest := []) 98 (xw_at (N := 129) (i := 98) (by decide) rfl) vc_X2 (s_addC l D cy ad G V600 J582 R582 hI600 hJ582 hR582 z602 ⟨by omega, by omega⟩ z605 ⟨by omega, by omega⟩) (l1 := []) (l2 := []) (List.append_nil _).symm (w2 := fun u : xS => XW cy ad u.1 u.2.1 u.2.2) (fun _ => List.append_nil _) rfl wm_yX2_add wn_X2 wl_X2_110 wi_yX2_add we_yX2_add hd_yX2_add rfl ⟨Nat.le_of_ble_eq_true rfl, Nat.le_of_ble_eq_true rfl⟩ (Nat.le_of_ble_eq_true rfl) ⟨Nat.le_of_ble_eq_true rfl, Nat.le_of_ble_eq_true rfl⟩ dX2_comeBy_116 (fun u606 h606 => ?_)
          obtain ⟨V606, J606, R606⟩ := u606
          obtain ⟨hS606, hBc606, hEc606, hFc606⟩ := h606
          replace hF := calTX_i hF hFc606 hBc606
          have hB606 := hB600.tr hBc606 (fun i k h => (Or.inl h))
          have hE606 : RK R606 Rr := RK.tr hE582 hEc606
          obtain ⟨hI606, hJ606, hR606⟩ := hS606
          dsimp only at hI606 hJ606 hR606 ⊢
          refine x_lv [(6, vI z576), (5, vI z573), (4, vI z456), (0, .ref (ad 98)), (1, .ref (ad 69)), (2, .ref (ad k2)), (3, vI x3)] [2, 3, 4, 5, 6, 7, 8] rfl ?_
          exact jn594 (V606, J606, R606) ⟨hI606, hB606, hJ606, hR606, hE606, hF⟩
    · refine x_if_eq C.1 (tgt := 37) dX2_comeBy_30 (by decide) (by omega) (fun hc607 => ?_) (fun hc607 => ?_)
      · replace hF := hF.to (if_pos hc607)
        refine x_iload_n C.1 dX2_comeBy_37 5 rfl ?_
        exact jn577 x3 ⟨⟨by omega, by omega⟩, hF⟩
      · replace hF := hF.to (if_neg hc607)
        refine x_iconst C.1 (n := 0) dX2_comeBy_33 ?_
        refine x_goto C.1 (tgt := 38) dX2_comeBy_34 (by decide) ?_
        exact jn577 0 ⟨⟨by decide, by decide⟩, hF⟩
theorem hd_yX2_stateOf : yX2_stateOf.cls ≠ "java/lang/invoke/MethodHandle" ∧ yX2_stateOf.cls ≠ "java/lang/invoke/VarHandle" ∧ (parseMethodDescriptor yX2_stateOf.desc).map (fun d => d.parameters.length) = some 2 := by decide +kernel
theorem dX2_behind_0 : decode cX2_behind 0 = .ok (.iconst 0, 1) := by decide +kernel
theorem dX2_behind_1 : decode cX2_behind 1 = .ok (.iload_n 1, 1) := by decide +kernel
theorem dX2_behind_2 : decode cX2_behind 2 = .ok (.bipush 25, 2) := by decide +kernel
theorem dX2_behind_4 : decode cX2_behind 4 = .ok (.irem, 1) := by decide +kernel
theorem dX2_behind_5 : decode cX2_behind 5 = .ok (.iload_n 2, 1) := by decide +kernel
theorem dX2_behind_6 : decode cX2_behind 6 = .ok (.isub, 1) := by decide +kernel
theorem dX2_behind_7 : decode cX2_behind 7 = .ok (.invokestatic 91, 3) := by decide +kernel
theorem dX2_behind_10 : decode cX2_behind 10 = .ok (.istore_n 3, 1) := by decide +kernel
theorem dX2_behind_11 : decode cX2_behind 11 = .ok (.iload_n 3, 1) := by decide +kernel
theorem dX2_behind_12 : decode cX2_behind 12 = .ok (.ifCond .ne 15, 3) := by decide +kernel
theorem dX2_behind_15 : decode cX2_behind 15 = .ok (.iload_n 1, 1) := by decide +kernel
theorem dX2_behind_16 : decode cX2_behind 16 = .ok (.bipush 25, 2) := by decide +kernel
theorem dX2_behind_18 : decode cX2_behind 18 = .ok (.idiv, 1) := by decide +kernel
theorem dX2_behind_19 : decode cX2_behind 19 = .ok (.invokestatic 97, 3) := by decide +kernel
theorem dX2_behind_22 : decode cX2_behind 22 = .ok (.iconst 1, 1) := by decide +kernel
theorem dX2_behind_23 : decode cX2_behind 23 = .ok (.iadd, 1) := by decide +kernel
theorem dX2_behind_24 : decode cX2_behind 24 = .ok (.goto 4, 3) := by decide +kernel
theorem dX2_behind_27 : decode cX2_behind 27 = .ok (.iconst 0, 1) := by decide +kernel
theorem dX2_behind_28 : decode cX2_behind 28 = .ok (.istore 4, 2) := by decide +kernel
theorem dX2_behind_30 : decode cX2_behind 30 = .ok (.iload_n 3, 1) := by decide +kernel
theorem dX2_behind_31 : decode cX2_behind 31 = .ok (.aload_n 0, 1) := by decide +kernel
theorem dX2_behind_32 : decode cX2_behind 32 = .ok (.getfield 46, 3) := by decide +kernel
theorem dX2_behind_35 : decode cX2_behind 35 = .ok (.if_icmp .ne 15, 3) := by decide +kernel
theorem dX2_behind_38 : decode cX2_behind 38 = .ok (.iload_n 1, 1) := by decide +kernel
theorem dX2_behind_39 : decode cX2_behind 39 = .ok (.bipush 25, 2) := by decide +kernel
theorem dX2_behind_41 : decode cX2_behind 41 = .ok (.idiv, 1) := by decide +kernel
theorem dX2_behind_42 : decode cX2_behind 42 = .ok (.invokestatic 101, 3) := by decide +kernel
theorem dX2_behind_45 : decode cX2_behind 45 = .ok (.iconst 1, 1) := by decide +kernel
theorem dX2_behind_46 : decode cX2_behind 46 = .ok (.iadd, 1) := by decide +kernel
theorem dX2_behind_47 : decode cX2_behind 47 = .ok (.goto 4, 3) := by decide +kernel
theorem dX2_behind_50 : decode cX2_behind 50 = .ok (.iconst 0, 1) := by decide +kernel
theorem dX2_behind_51 : decode cX2_behind 51 = .ok (.istore 5, 2) := by decide +kernel
theorem dX2_behind_53 : decode cX2_behind 53 = .ok (.iload 4, 2) := by decide +kernel
theorem dX2_behind_55 : decode cX2_behind 55 = .ok (.iload 5, 2) := by decide +kernel
theorem dX2_behind_57 : decode cX2_behind 57 = .ok (.invokestatic 61, 3) := by decide +kernel
theorem dX2_behind_60 : decode cX2_behind 60 = .ok (.iload_n 3, 1) := by decide +kernel
theorem dX2_behind_61 : decode cX2_behind 61 = .ok (.invokestatic 107, 3) := by decide +kernel
theorem dX2_behind_64 : decode cX2_behind 64 = .ok (.ireturn, 1) := by decide +kernel
set_option maxRecDepth 100000 in
def f_s_behind (x1 : Int) (x2 : Int) (V : Nat → Nat → Int) (J : Nat → Nat → Int) (Rr : Nat → Nat → Nat) : (Int) → Prop :=
  rdb (iRem x1 25) fun z1 => fct (-24 ≤ z1 ∧ z1 ≤ 24) <| rdb (wr (z1 - x2)) fun z2 => rdb (max 0 z2) fun z3 => fct (0 ≤ z3 ∧ z3 ≤ 2147483647) <| jnk (fun (z7 : Int) => rdb (V 98 10) fun z9 => jnk (fun (z13 : Int) => calR (f_s_kindOf z7 z13) fun z15 => fct (-2147483648 ≤ z15 ∧ z15 ≤ 18) <| calR (f_s_stateOf z15 z3) fun z16 => rtn z16) fun jf14 => (if ¬ z3 = z9 then jf14 0 else rdb (iDiv x1 25) fun z18 => calR (f_s_drownedOf z18) fun z19 => rdb (wr (z19 + 1)) fun z20 => jf14 z20)) fun jf8 => (if ¬ z3 = 0 then jf8 0 else rdb (iDiv x1 25) fun z22 => calR (f_s_dryOf z22) fun z23 => rdb (wr (z23 + 1)) fun z24 => jf8 z24)
set_option maxHeartbeats 8000000 in
set_option maxRecDepth 100000 in
theorem s_behind (l : Launch) (D : va_G) (cy : Nat → ClassId) (ad : Nat → Nat) (G : Nat → Nat → Int) (V J : Nat → Nat → Int) (Rr : Nat → Nat → Nat) (hI : XI G V) (hJ : VJ J) (hR : XR Rr) (x1 : Int) (bx1 : -2147483648 ≤ x1 ∧ x1 ≤ 2147483647) (x2 : Int) (bx2 : -2147483648 ≤ x2 ∧ x2 ≤ 2147483647) : xMi l D (xTY cy) yX2_behind cX2_behind 6 (some .int) 2 42 0 0 [.ref (ad 98), vI x1, vI x2] (XW cy ad V J Rr) (fun _ : Unit => XW cy ad V J Rr) (fun a (u : Unit) => (f_s_behind x1 x2 V J Rr) a) := by
  refine xMi.mk (lv0 := [(0, .ref (ad 98)), (1, vI x1), (2, vI x2)]) (by decide) rfl (Nat.le_of_ble_eq_true rfl) (fun p e s m below meth c A C hr hnm hAe => ?_)
  have C : xC2 p s m _ meth c D A s.heap 6 cX2_behind RX2 (xTY cy) := C
  have hF := Imp.of_eq (f_s_behind.eq_def x1 x2 V J Rr)
  refine x_iconst C.1 (n := 0) dX2_behind_0 ?_
  refine x_iload_n C.1 dX2_behind_1 1 rfl ?_
  refine x_bipush C.1 (n := 25) dX2_behind_2 ?_
  obtain ⟨z1, hz1, bz1⟩ : ∃ z : Int, iRem x1 25 = z ∧ (-24 ≤ z ∧ z ≤ 24) := ⟨_, rfl, iRem_m (by omega) (by omega)⟩
  replace hF := hF.to (rdb_e (z := z1) hz1)
  replace hF := hF.fc bz1
  refine x_irem C.1 (v := z1) hz1 dX2_behind_4 (by decide) (by decide) ?_
  refine x_iload_n C.1 dX2_behind_5 2 rfl ?_
  refine x_isub C.1 (v := z1 - x2) (by omega) dX2_behind_6 ?_
  refine x_wrapg ?_
  intro z2 bz2 ew2
  replace hF := hF.to (rdb_e (z := z2) ew2.symm)
  refine x_mmax C wl_X2_91 (by decide) (by omega) dX2_behind_7 ⟨Nat.le_of_ble_eq_true rfl, Nat.le_of_ble_eq_true rfl⟩ (Nat.le_of_ble_eq_true rfl) ⟨Nat.le_of_ble_eq_true rfl, Nat.le_of_ble_eq_true rfl⟩ (fun z3 hx3 => ?_)
  have bz3 : 0 ≤ z3 ∧ z3 ≤ 2147483647 := by omega
  replace hF := hF.to (rdb_e (z := z3) (by omega))
  replace hF := hF.fc bz3
  clear hx3
  refine x_istore_n C.1 (lv' := [(3, vI z3), (0, .ref (ad 98)), (1, vI x1), (2, vI x2)]) dX2_behind_10 (by decide) rfl ?_
  refine x_iload_n C.1 dX2_behind_11 0 rfl ?_
  obtain ⟨jf8, hjf8, hF⟩ := jn_ex hF
  refine x_join (I := fun z7 : Int => (-2147483648 ≤ z7 ∧ z7 ≤ 2147483647) ∧ Imp (jf8 z7) (f_s_behind x1 x2 V J Rr)) (wsf := fun z7 : Int => XW cy ad V J Rr) (lvf := fun z7 : Int => [(3, vI z3), (0, .ref (ad 98)), (1, vI x1), (2, vI x2)]) (stf := fun z7 : Int => [vI z7]) 28 (fun z7 hI8x => ?_) (fun jn8 => ?_)
  · obtain ⟨bz7, hF⟩ := hI8x
    try dsimp only
    replace hF := hF.to (jn_s1 hjf8)
    refine x_istore C.1 (lv' := [(4, vI z7), (3, vI z3), (0, .ref (ad 98)), (1, vI x1), (2, vI x2)]) dX2_behind_28 (by decide) rfl ?_
    refine x_iload_n C.1 dX2_behind_30 1 rfl ?_
    refine x_aload_n C.1 dX2_behind_31 2 rfl ?_
    obtain ⟨z9, ez9, bz9⟩ := hI.rd 98 10 (x := -2147483648) (y := 2147483647) rfl
    replace hF := hF.to (rdb_e (z := z9) ez9)
    refine x_getI C (N := 129) (i := 98) (by decide) rfl vc_X2 wx_X2 10 (by decide) wf_X2_46 rfl dX2_behind_32 (a := z9) ez9 ?_
    obtain ⟨jf14, hjf14, hF⟩ := jn_ex hF
    refine x_join (I := fun z13 : Int => (-2147483648 ≤ z13 ∧ z13 ≤ 2147483647) ∧ Imp (jf14 z13) (f_s_behind x1 x2 V J Rr)) (wsf := fun z13 : Int => XW cy ad V J Rr) (lvf := fun z13 : Int => [(4, vI z7), (3, vI z3), (0, .ref (ad 98)), (1, vI x1), (2, vI x2)]) (stf := fun z13 : Int => [vI z13]) 51 (fun z13 hI14x => ?_) (fun jn14 => ?_)
    · obtain ⟨bz13, hF⟩ := hI14x
      try dsimp only
      replace hF := hF.to (jn_s1 hjf14)
      refine x_istore C.1 (lv' := [(5, vI z13), (4, vI z7), (3, vI z3), (0, .ref (ad 98)), (1, vI x1), (2, vI x2)]) dX2_behind_51 (by decide) rfl ?_
      refine x_iload C.1 dX2_behind_53 1 rfl ?_
      refine x_iload C.1 dX2_behind_55 0 rfl ?_
      refine x_callSi C (As := [vI z7, vI z13]) (rest := []) (s_kindOf l D cy z7 ⟨by omega, by omega⟩ z13 ⟨by omega, by omega⟩) (l1 := []) (l2 := _) rfl (w2 := fun _ => _) (fun _ => rfl) rfl wm_yX2_kindOf wn_X2 wl_X2_61 wi_yX2_kindOf hd_yX2_kindOf rfl ⟨Nat.le_of_ble_eq_true rfl, Nat.le_of_ble_eq_true rfl⟩ (Nat.le_of_ble_eq_true rfl) ⟨Nat.le_of_ble_eq_true rfl, Nat.le_of_ble_eq_true rfl⟩ dX2_behind_57 (fun z15 u15 bz15 h15 => ?_)
      obtain ⟨bq15, hFc15⟩ := h15
      replace hF := calR_i hF hFc15
      replace hF := hF.fc bq15
      refine x_iload_n C.1 dX2_behind_60 2 rfl ?_
      refine x_callSi C (As := [vI z15, vI z3]) (rest := []) (s_stateOf l D cy z15 ⟨by omega, by omega⟩ z3 ⟨by omega, by omega⟩) (l1 := []) (l2 := _) rfl (w2 := fun _ => _) (fun _ => rfl) rfl wm_yX2_stateOf wn_X2 wl_X2_107 wi_yX2_stateOf hd_yX2_stateOf rfl ⟨Nat.le_of_ble_eq_true rfl, Nat.le_of_ble_eq_true rfl⟩ (Nat.le_of_ble_eq_true rfl) ⟨Nat.le_of_ble_eq_true rfl, Nat.le_of_ble_eq_true rfl⟩ dX2_behind_61 (fun z16 u16 bz16 h16 => ?_)
      have hFc16 := h16
      replace hF := calR_i hF hFc16
      exact x_iret (S := Unit) (post := (fun a (u : Unit) => (f_s_behind x1 x2 V J Rr) a)) (w1 := (fun _ : Unit => XW cy ad V J Rr)) (a := z16) C hr rfl dX2_behind_64 (by omega) () rfl (hF _ rfl)
    · refine x_icmp_ne C.1 (tgt := 50) dX2_behind_35 (by decide) (by omega) (by omega) (fun hc17 => ?_) (fun hc17 => ?_)
      · replace hF := hF.to (if_pos hc17)
        refine x_iconst C.1 (n := 0) dX2_behind_50 ?_
        exact jn14 0 ⟨⟨by decide, by decide⟩, hF⟩
      · replace hF := hF.to (if_neg (fun hh => hh hc17))
        refine x_iload_n C.1 dX2_behind_38 3 rfl ?_
        refine x_bipush C.1 (n := 25) dX2_behind_39 ?_
        obtain ⟨z18, hz18, bz18⟩ : ∃ z : Int, iDiv x1 25 = z ∧ (-2147483648 ≤ z ∧ z ≤ 2147483647) := ⟨_, rfl, xi_r _⟩
        replace hF := hF.to (rdb_e (z := z18) hz18)
        refine x_idiv C.1 (v := z18) hz18 dX2_behind_41 (by decide) (by decide) ?_
        refine x_callSi C (As := [vI z18]) (rest := []) (s_drownedOf l D cy z18 ⟨by omega, by omega⟩) (l1 := []) (l2 := _) rfl (w2 := fun _ => _) (fun _ => rfl) rfl wm_yX2_drownedOf wn_X2 wl_X2_101 wi_yX2_drownedOf hd_yX2_drownedOf rfl ⟨Nat.le_of_ble_eq_true rfl, Nat.le_of_ble_eq_true rfl⟩ (Nat.le_of_ble_eq_true rfl) ⟨Nat.le_of_ble_eq_true rfl, Nat.le_of_ble_eq_true rfl⟩ dX2_behind_42 (fun z19 u19 bz19 h19 => ?_)
        have hFc19 := h19
        replace hF := calR_i hF hFc19
        refine x_iconst C.1 (n := 1) dX2_behind_45 ?_
        refine x_iadd C.1 (v := z19 + 1) (by omega) dX2_behind_46 ?_
        refine x_wrapg ?_
        intro z20 bz20 ew20
        replace hF := hF.to (rdb_e (z := z20) ew20.symm)
        refine x_goto C.1 (tgt := 51) dX2_behind_47 (by decide) ?_
        exact jn14 z20 ⟨⟨by omega, by omega⟩, hF⟩
  · refine x_if_ne C.1 (tgt := 27) dX2_behind_12 (by decide) (by omega) (fun hc21 => ?_) (fun hc21 => ?_)
    · replace hF := hF.to (if_pos hc21)
      refine x_iconst C.1 (n := 0) dX2_behind_27 ?_
      exact jn8 0 ⟨⟨by decide, by decide⟩, hF⟩
    · replace hF := hF.to (if_neg (fun hh => hh hc21))
      refine x_iload_n C.1 dX2_behind_15 2 rfl ?_
      refine x_bipush C.1 (n := 25) dX2_behind_16 ?_
      obtain ⟨z22, hz22, bz22⟩ : ∃ z : Int, iDiv x1 25 = z ∧ (-2147483648 ≤ z ∧ z ≤ 2147483647) := ⟨_, rfl, xi_r _⟩
      replace hF := hF.to (rdb_e (z := z22) hz22)
      refine x_idiv C.1 (v := z22) hz22 dX2_behind_18 (by decide) (by decide) ?_
      refine x_callSi C (As := [vI z22]) (rest := []) (s_dryOf l D cy z22 ⟨by omega, by omega⟩) (l1 := []) (l2 := _) rfl (w2 := fun _ => _) (fun _ => rfl) rfl wm_yX2_dryOf wn_X2 wl_X2_97 wi_yX2_dryOf hd_yX2_dryOf rfl ⟨Nat.le_of_ble_eq_true rfl, Nat.le_of_ble_eq_true rfl⟩ (Nat.le_of_ble_eq_true rfl) ⟨Nat.le_of_ble_eq_true rfl, Nat.le_of_ble_eq_true rfl⟩ dX2_behind_19 (fun z23 u23 bz23 h23 => ?_)
      have hFc23 := h23
      replace hF := calR_i hF hFc23
      refine x_iconst C.1 (n := 1) dX2_behind_22 ?_
      refine x_iadd C.1 (v := z23 + 1) (by omega) dX2_behind_23 ?_
      refine x_wrapg ?_
      intro z24 bz24 ew24
      replace hF := hF.to (rdb_e (z := z24) ew24.symm)
      refine x_goto C.1 (tgt := 28) dX2_behind_24 (by decide) ?_
      exact jn8 z24 ⟨⟨by omega, by omega⟩, hF⟩
theorem hd_yX2_behind : yX2_behind.cls ≠ "java/lang/invoke/MethodHandle" ∧ yX2_behind.cls ≠ "java/lang/invoke/VarHandle" ∧ (parseMethodDescriptor yX2_behind.desc).map (fun d => d.parameters.length) = some 2 := by decide +kernel
theorem dX2_goDry_0 : decode cX2_goDry 0 = .ok (.iconst 0, 1) := by decide +kernel
theorem dX2_goDry_1 : decode cX2_goDry 1 = .ok (.istore_n 3, 1) := by decide +kernel
theorem dX2_goDry_2 : decode cX2_goDry 2 = .ok (.iload_n 3, 1) := by decide +kernel
theorem dX2_goDry_3 : decode cX2_goDry 3 = .ok (.aload_n 0, 1) := by decide +kernel
theorem dX2_goDry_4 : decode cX2_goDry 4 = .ok (.getfield 176, 3) := by decide +kernel
theorem dX2_goDry_7 : decode cX2_goDry 7 = .ok (.if_icmp .ge 121, 3) := by decide +kernel
theorem dX2_goDry_10 : decode cX2_goDry 10 = .ok (.aload_n 0, 1) := by decide +kernel
theorem dX2_goDry_11 : decode cX2_goDry 11 = .ok (.getfield 18, 3) := by decide +kernel
theorem dX2_goDry_14 : decode cX2_goDry 14 = .ok (.iload_n 3, 1) := by decide +kernel
theorem dX2_goDry_15 : decode cX2_goDry 15 = .ok (.iaload, 1) := by decide +kernel
theorem dX2_goDry_16 : decode cX2_goDry 16 = .ok (.istore 4, 2) := by decide +kernel
theorem dX2_goDry_18 : decode cX2_goDry 18 = .ok (.aload_n 0, 1) := by decide +kernel
theorem dX2_goDry_19 : decode cX2_goDry 19 = .ok (.getfield 11, 3) := by decide +kernel
theorem dX2_goDry_22 : decode cX2_goDry 22 = .ok (.iload 4, 2) := by decide +kernel
theorem dX2_goDry_24 : decode cX2_goDry 24 = .ok (.laload, 1) := by decide +kernel
theorem dX2_goDry_25 : decode cX2_goDry 25 = .ok (.lstore 5, 2) := by decide +kernel
theorem dX2_goDry_27 : decode cX2_goDry 27 = .ok (.aload_n 0, 1) := by decide +kernel
theorem dX2_goDry_28 : decode cX2_goDry 28 = .ok (.iload 4, 2) := by decide +kernel
theorem dX2_goDry_30 : decode cX2_goDry 30 = .ok (.bipush 25, 2) := by decide +kernel
theorem dX2_goDry_32 : decode cX2_goDry 32 = .ok (.idiv, 1) := by decide +kernel
theorem dX2_goDry_33 : decode cX2_goDry 33 = .ok (.invokevirtual 190, 3) := by decide +kernel
theorem dX2_goDry_36 : decode cX2_goDry 36 = .ok (.ifCond .eq 18, 3) := by decide +kernel
theorem dX2_goDry_39 : decode cX2_goDry 39 = .ok (.aload_n 0, 1) := by decide +kernel
theorem dX2_goDry_40 : decode cX2_goDry 40 = .ok (.iload 4, 2) := by decide +kernel
theorem dX2_goDry_42 : decode cX2_goDry 42 = .ok (.lload 5, 2) := by decide +kernel
theorem dX2_goDry_44 : decode cX2_goDry 44 = .ok (.ldc2_w 182, 3) := by decide +kernel
theorem dX2_goDry_47 : decode cX2_goDry 47 = .ok (.lmul, 1) := by decide +kernel
theorem dX2_goDry_48 : decode cX2_goDry 48 = .ok (.invokevirtual 110, 3) := by decide +kernel
theorem dX2_goDry_51 : decode cX2_goDry 51 = .ok (.goto 71, 3) := by decide +kernel
theorem dX2_goDry_54 : decode cX2_goDry 54 = .ok (.aload_n 0, 1) := by decide +kernel
theorem dX2_goDry_55 : decode cX2_goDry 55 = .ok (.aload_n 1, 1) := by decide +kernel
theorem dX2_goDry_56 : decode cX2_goDry 56 = .ok (.iload 4, 2) := by decide +kernel
theorem dX2_goDry_58 : decode cX2_goDry 58 = .ok (.invokevirtual 194, 3) := by decide +kernel
theorem dX2_goDry_61 : decode cX2_goDry 61 = .ok (.aload_n 1, 1) := by decide +kernel
theorem dX2_goDry_62 : decode cX2_goDry 62 = .ok (.aload_n 2, 1) := by decide +kernel
theorem dX2_goDry_63 : decode cX2_goDry 63 = .ok (.bipush 101, 2) := by decide +kernel
theorem dX2_goDry_65 : decode cX2_goDry 65 = .ok (.bipush 9, 2) := by decide +kernel
theorem dX2_goDry_67 : decode cX2_goDry 67 = .ok (.invokevirtual 202, 3) := by decide +kernel
theorem dX2_goDry_70 : decode cX2_goDry 70 = .ok (.istore 7, 2) := by decide +kernel
theorem dX2_goDry_72 : decode cX2_goDry 72 = .ok (.iload 7, 2) := by decide +kernel
theorem dX2_goDry_74 : decode cX2_goDry 74 = .ok (.aload_n 1, 1) := by decide +kernel
theorem dX2_goDry_75 : decode cX2_goDry 75 = .ok (.aload_n 2, 1) := by decide +kernel
theorem dX2_goDry_76 : decode cX2_goDry 76 = .ok (.bipush 104, 2) := by decide +kernel
theorem dX2_goDry_78 : decode cX2_goDry 78 = .ok (.bipush 9, 2) := by decide +kernel
theorem dX2_goDry_80 : decode cX2_goDry 80 = .ok (.invokevirtual 202, 3) := by decide +kernel
theorem dX2_goDry_83 : decode cX2_goDry 83 = .ok (.iadd, 1) := by decide +kernel
theorem dX2_goDry_84 : decode cX2_goDry 84 = .ok (.istore 8, 2) := by decide +kernel
theorem dX2_goDry_86 : decode cX2_goDry 86 = .ok (.aload_n 0, 1) := by decide +kernel
theorem dX2_goDry_87 : decode cX2_goDry 87 = .ok (.aload_n 0, 1) := by decide +kernel
theorem dX2_goDry_88 : decode cX2_goDry 88 = .ok (.iload 4, 2) := by decide +kernel
theorem dX2_goDry_90 : decode cX2_goDry 90 = .ok (.iload 7, 2) := by decide +kernel
theorem dX2_goDry_92 : decode cX2_goDry 92 = .ok (.invokevirtual 206, 3) := by decide +kernel
theorem dX2_goDry_95 : decode cX2_goDry 95 = .ok (.lload 5, 2) := by decide +kernel
theorem dX2_goDry_97 : decode cX2_goDry 97 = .ok (.ldc2_w 209, 3) := by decide +kernel
theorem dX2_goDry_100 : decode cX2_goDry 100 = .ok (.lmul, 1) := by decide +kernel
theorem dX2_goDry_101 : decode cX2_goDry 101 = .ok (.invokevirtual 110, 3) := by decide +kernel
theorem dX2_goDry_104 : decode cX2_goDry 104 = .ok (.aload_n 0, 1) := by decide +kernel
theorem dX2_goDry_105 : decode cX2_goDry 105 = .ok (.aload_n 0, 1) := by decide +kernel
theorem dX2_goDry_106 : decode cX2_goDry 106 = .ok (.iload 4, 2) := by decide +kernel
theorem dX2_goDry_108 : decode cX2_goDry 108 = .ok (.iload 8, 2) := by decide +kernel
theorem dX2_goDry_110 : decode cX2_goDry 110 = .ok (.invokevirtual 206, 3) := by decide +kernel
theorem dX2_goDry_113 : decode cX2_goDry 113 = .ok (.lload 5, 2) := by decide +kernel
theorem dX2_goDry_115 : decode cX2_goDry 115 = .ok (.ldc2_w 209, 3) := by decide +kernel
theorem dX2_goDry_118 : decode cX2_goDry 118 = .ok (.lmul, 1) := by decide +kernel
theorem dX2_goDry_119 : decode cX2_goDry 119 = .ok (.invokevirtual 110, 3) := by decide +kernel
theorem dX2_goDry_122 : decode cX2_goDry 122 = .ok (.iinc 3 1, 3) := by decide +kernel
theorem dX2_goDry_125 : decode cX2_goDry 125 = .ok (.goto (-123), 3) := by decide +kernel
theorem dX2_goDry_128 : decode cX2_goDry 128 = .ok (.aload_n 0, 1) := by decide +kernel
theorem dX2_goDry_129 : decode cX2_goDry 129 = .ok (.invokevirtual 114, 3) := by decide +kernel
theorem dX2_goDry_132 : decode cX2_goDry 132 = .ok (.return_, 1) := by decide +kernel
set_option maxRecDepth 100000 in
def f_s_goDry (k2 : Nat) (V : Nat → Nat → Int) (J : Nat → Nat → Int) (Rr : Nat → Nat → Nat) : (xS) → Prop :=
  lop4 (477) (fun rc385 (z384 : Int) (V385 : Nat → Nat → Int) (J385 : Nat → Nat → Int) (R385 : Nat → Nat → Nat) => rdb (V385 98 4) fun z449 => fct (0 ≤ z449 ∧ z449 ≤ 475) <| (if z449 ≤ z384 then calTX (fun i k : Nat => (98 ≤ i ∧ i ≤ 104)) V385 (f_s_goOn V385 J385 R385) fun V481 J481 R481 => rtn (V481, J481, R481) else rdb (R385 98 2) fun t482 => rdb (V385 t482 z384.toNat) fun z483 => fct (0 ≤ z483 ∧ z483 ≤ 474) <| rdb (R385 98 0) fun t484 => rdb (J385 t484 z483.toNat) fun z485 => rdb (iDiv z483 25) fun z486 => fct (0 ≤ z486 ∧ z486 ≤ 474) <| calR (f_s_isDeadC z486 V385 J385 R385) fun z487 => fct (0 ≤ z487 ∧ z487 ≤ 1) <| jnk (fun (V499 : Nat → Nat → Int) (J499 : Nat → Nat → Int) (R499 : Nat → Nat → Nat) => rc385 (z384 + 1) V499 J499 R499) fun jf499 => (if z487 = 0 then calUX (fun i k : Nat => (69 ≤ i ∧ i ≤ 71)) V385 (f_s_lookAt z483 V385 J385 R385) fun V501 => calVX (fun i k : Nat => (69 ≤ i ∧ i ≤ 71)) V501 (f_s_ask k2 101 9 V501 J385 R385) fun z502 V502 => fct (0 ≤ z502 ∧ z502 ≤ 999) <| calVX (fun i k : Nat => (69 ≤ i ∧ i ≤ 71)) V502 (f_s_ask k2 104 9 V502 J385 R385) fun z503 V503 => fct (0 ≤ z503 ∧ z503 ≤ 999) <| calR (f_s_behind z483 z502 V503 J385 R385) fun z504 => rdb (wrJ (5 * z485)) fun z505 => calTX (fun i k : Nat => (98 ≤ i ∧ i ≤ 104)) V503 (f_s_addC z504 z505 V503 J385 R385) fun V506 J506 R506 => calR (f_s_behind z483 (z502 + z503) V506 J506 R506) fun z507 => rdb (wrJ (5 * z485)) fun z508 => calTX (fun i k : Nat => (98 ≤ i ∧ i ≤ 104)) V506 (f_s_addC z507 z508 V506 J506 R506) fun V509 J509 R509 => jf499 V509 J509 R509 else rdb (wrJ (10 * z485)) fun z510 => calTX (fun i k : Nat => (98 ≤ i ∧ i ≤ 104)) V385 (f_s_addC z483 z510 V385 J385 R385) fun V511 J511 R511 => jf499 V511 J511 R511))) 0 V J Rr
set_option maxHeartbeats 8000000 in
set_option maxRecDepth 100000 in
theorem s_goDry (l : Launch) (D : va_G) (cy : Nat → ClassId) (ad : Nat → Nat) (G : Nat → Nat → Int) (V J : Nat → Nat → Int) (Rr : Nat → Nat → Nat) (hI : XI G V) (hJ : VJ J) (hR : XR Rr) (k2 : Nat) (hk2 : isTx k2) : xMv l D (xTY cy) yX2_goDry cX2_goDry 9 none 3 76 0 0 [.ref (ad 98), .ref (ad 69), .ref (ad k2)] (XW cy ad V J Rr) (fun u : xS => XW cy ad u.1 u.2.1 u.2.2) (fun u : xS => XS G u ∧ FB (fun i k : Nat => (69 ≤ i ∧ i ≤ 71) ∨ (98 ≤ i ∧ i ≤ 104)) V u.1 ∧ RK u.2.2 Rr ∧ (f_s_goDry k2 V J Rr) u) := by
  refine xMv.mk (lv0 := [(0, .ref (ad 98)), (1, .ref (ad 69)), (2, .ref (ad k2))]) (by decide) rfl (Nat.le_of_ble_eq_true rfl) (fun p e s m below meth c A C hr hnm hAe => ?_)
  have C : xC2 p s m _ meth c D A s.heap 9 cX2_goDry RX2 (xTY cy) := C
  have hB : FB (fun i k : Nat => (69 ≤ i ∧ i ≤ 71) ∨ (98 ≤ i ∧ i ≤ 104)) V V := FB.rf _ _
  have hF := Imp.of_eq (f_s_goDry.eq_def k2 V J Rr)
  refine x_iconst C.1 (n := 0) dX2_goDry_0 ?_
  refine x_istore_n C.1 (lv' := [(3, vI 0), (0, .ref (ad 98)), (1, .ref (ad 69)), (2, .ref (ad k2))]) dX2_goDry_1 (by decide) rfl ?_
  obtain ⟨bd385, hbd385, hF⟩ := lop4_ex hF
  refine x_loop (I := fun x : Int × (Nat → Nat → Int) × (Nat → Nat → Int) × (Nat → Nat → Nat) => match x with | (z384, V385, J385, R385) => (0 ≤ z384 ∧ z384 ≤ 475) ∧ XI G V385 ∧ FB (fun i k : Nat => (69 ≤ i ∧ i ≤ 71) ∨ (98 ≤ i ∧ i ≤ 104)) V V385 ∧ VJ J385 ∧ XR R385 ∧ RK R385 Rr ∧ (∃ nf : Nat, (476 - z384).toNat < nf ∧ Imp (lop4 nf bd385 z384 V385 J385 R385) (f_s_goDry k2 V J Rr))) (μ := fun x : Int × (Nat → Nat → Int) × (Nat → Nat → Int) × (Nat → Nat → Nat) => match x with | (z384, V385, J385, R385) => (476 - z384).toNat) (wsf := fun x : Int × (Nat → Nat → Int) × (Nat → Nat → Int) × (Nat → Nat → Nat) => match x with | (z384, V385, J385, R385) => XW cy ad V385 J385 R385) (lvf := fun x : Int × (Nat → Nat → Int) × (Nat → Nat → Int) × (Nat → Nat → Nat) => match x with | (z384, V385, J385, R385) => [(3, vI z384), (0, .ref (ad 98)), (1, .ref (ad 69)), (2, .ref (ad k2))]) (fun x hI385x ih385 => ?_) (0, V, J, Rr) ⟨⟨by decide, by decide⟩, hI, hB, hJ, hR, (RK.rf _), ⟨_, (by omega), hF⟩⟩ rfl rfl
  obtain ⟨z384, V385, J385, R385⟩ := x
  obtain ⟨bz384, hI385, hB385, hJ385, hR385, hE385, nf385, hn385, hF⟩ := hI385x
  try dsimp only
  obtain ⟨nf385, rfl⟩ : ∃ mm, nf385 = mm + 1 := ⟨nf385 - 1, (Nat.succ_pred_eq_of_pos (Nat.lt_of_le_of_lt (Nat.zero_le _) hn385)).symm⟩
  replace hF := hF.to (lop4_s hbd385)
  refine x_iload_n C.1 dX2_goDry_2 0 rfl ?_
  refine x_aload_n C.1 dX2_goDry_3 1 rfl ?_
  obtain ⟨z449, ez449, bz449⟩ := hI385.rd 98 4 (x := 0) (y := 475) rfl
  replace hF := hF.to (rdb_e (z := z449) ez449)
  replace hF := hF.fc bz449
  refine x_getI C (N := 129) (i := 98) (by decide) rfl vc_X2 wx_X2 4 (by decide) wf_X2_176 rfl dX2_goDry_4 (a := z449) ez449 ?_
  refine x_icmp_ge C.1 (tgt := 128) dX2_goDry_7 (by decide) (by omega) (by omega) (fun hc480 => ?_) (fun hc480 => ?_)
  · replace hF := hF.to (if_pos hc480)
    refine x_aload_n C.1 dX2_goDry_128 1 rfl ?_
    refine x_callVv C (As := []) (rest := []) 98 (xw_at (N := 129) (i := 98) (by decide) rfl) vc_X2 (s_goOn l D cy ad G V385 J385 R385 hI385 hJ385 hR385 ) (l1 := []) (l2 := []) (List.append_nil _).symm (w2 := fun u : xS => XW cy ad u.1 u.2.1 u.2.2) (fun _ => List.append_nil _) rfl wm_yX2_goOn wn_X2 wl_X2_114 wi_yX2_goOn we_yX2_goOn hd_yX2_goOn rfl ⟨Nat.le_of_ble_eq_true rfl, Nat.le_of_ble_eq_true rfl⟩ (Nat.le_of_ble_eq_true rfl) ⟨Nat.le_of_ble_eq_true rfl, Nat.le_of_ble_eq_true rfl⟩ dX2_goDry_129 (fun u481 h481 => ?_)
    obtain ⟨V481, J481, R481⟩ := u481
    obtain ⟨hS481, hBc481, hEc481, hFc481⟩ := h481
    replace hF := calTX_i hF hFc481 hBc481
    have hB481 := hB385.tr hBc481 (fun i k h => (Or.inr (h)))
    have hE481 : RK R481 Rr := RK.tr hE385 hEc481
    obtain ⟨hI481, hJ481, hR481⟩ := hS481
    dsimp only at hI481 hJ481 hR481 ⊢
    exact x_vret (S := xS) (post := (fun u : xS => XS G u ∧ FB (fun i k : Nat => (69 ≤ i ∧ i ≤ 71) ∨ (98 ≤ i ∧ i ≤ 104)) V u.1 ∧ RK u.2.2 Rr ∧ (f_s_goDry k2 V J Rr) u)) (w1 := (fun u : xS => XW cy ad u.1 u.2.1 u.2.2)) C hr rfl dX2_goDry_132 (V481, J481, R481) rfl ⟨⟨hI481, hJ481, hR481⟩, hB481, hE481, hF _ rfl⟩
  · replace hF := hF.to (if_neg hc480)
    refine x_aload_n C.1 dX2_goDry_10 1 rfl ?_
    obtain ⟨t482, et482, ht482⟩ := XR.st hR385 (k := 2) (by decide)
    replace hF := hF.to (rdb_e (z := t482) et482)
    refine x_getR C (N := 129) (i := 98) (by decide) rfl vc_X2 wx_X2 2 (by decide) wf_X2_18 rfl dX2_goDry_11 (a := t482) et482 ?_
    refine x_iload_n C.1 dX2_goDry_14 0 rfl ?_
    obtain ⟨z483, ez483, bz483⟩ := hI385.rd t482 z384.toNat (x := 0) (y := 474) (rg_St ht482 _)
    replace hF := hF.to (rdb_e (z := z483) ez483)
    replace hF := hF.fc bz483
    refine x_iald C (N := 129) (i := t482) (q := z384) (by omega) (xd_St ht482) (by omega) (by decide) dX2_goDry_15 (a := z483) ez483 ?_
    refine x_istore C.1 (lv' := [(4, vI z483), (3, vI z384), (0, .ref (ad 98)), (1, .ref (ad 69)), (2, .ref (ad k2))]) dX2_goDry_16 (by decide) rfl ?_
    refine x_aload_n C.1 dX2_goDry_18 2 rfl ?_
    obtain ⟨t484, et484, ht484⟩ := XR.w hR385 (k := 0) (by decide)
    replace hF := hF.to (rdb_e (z := t484) et484)
    refine x_getR C (N := 129) (i := 98) (by decide) rfl vc_X2 wx_X2 0 (by decide) wf_X2_11 rfl dX2_goDry_19 (a := t484) et484 ?_
    refine x_iload C.1 dX2_goDry_22 0 rfl ?_
    obtain ⟨z485, ez485, bz485⟩ := hJ385.rd t484 z483.toNat
    replace hF := hF.to (rdb_e (z := z485) ez485)
    refine x_lald C (N := 129) (i := t484) (q := z483) (by omega) (xd_Wt ht484) (by omega) (by decide) dX2_goDry_24 (a := z485) ez485 ?_
    refine x_lstore C.1 (lv' := [(5, vJ z485), (4, vI z483), (3, vI z384), (0, .ref (ad 98)), (1, .ref (ad 69)), (2, .ref (ad k2))]) dX2_goDry_25 (by decide) rfl ?_
    refine x_aload_n C.1 dX2_goDry_27 3 rfl ?_
    refine x_iload C.1 dX2_goDry_28 1 rfl ?_
    refine x_bipush C.1 (n := 25) dX2_goDry_30 ?_
    obtain ⟨z486, hz486, bz486⟩ : ∃ z : Int, iDiv z483 25 = z ∧ (0 ≤ z ∧ z ≤ 474) := ⟨_, rfl, iDiv_n (by omega) (by omega)⟩
    replace hF := hF.to (rdb_e (z := z486) hz486)
    replace hF := hF.fc bz486
    refine x_idiv C.1 (v := z486) hz486 dX2_goDry_32 (by decide) (by decide) ?_
    refine x_callVi C (As := [vI z486]) (rest := []) 98 (xw_at (N := 129) (i := 98) (by decide) rfl) vc_X2 (s_isDeadC l D cy ad G V385 J385 R385 hI385 hJ385 hR385 z486 ⟨by omega, by omega⟩) (l1 := []) (l2 := []) (List.append_nil _).symm (w2 := fun _ => XW cy ad V385 J385 R385) (fun _ => List.append_nil _) rfl wm_yX2_isDead wn_X2 wl_X2_190 wi_yX2_isDead we_yX2_isDead hd_yX2_isDead rfl ⟨Nat.le_of_ble_eq_true rfl, Nat.le_of_ble_eq_true rfl⟩ (Nat.le_of_ble_eq_true rfl) ⟨Nat.le_of_ble_eq_true rfl, Nat.le_of_ble_eq_true rfl⟩ dX2_goDry_33 (fun z487 u487 bz487 h487 => ?_)
    obtain ⟨bq487, hFc487⟩ := h487
    replace hF := calR_i hF hFc487
    replace hF := hF.fc bq487
    obtain ⟨jf499, hjf499, hF⟩ := jn_ex hF
    refine x_join (I := fun x : (Nat → Nat → Int) × (Nat → Nat → Int) × (Nat → Nat → Nat) => match x with | (V499, J499, R499) => XI G V499 ∧ FB (fun i k : Nat => (69 ≤ i ∧ i ≤ 71) ∨ (98 ≤ i ∧ i ≤ 104)) V V499 ∧ VJ J499 ∧ XR R499 ∧ RK R499 Rr ∧ Imp (jf499 V499 J499 R499) (f_s_goDry k2 V J Rr)) (wsf := fun x : (Nat → Nat → Int) × (Nat → Nat → Int) × (Nat → Nat → Nat) => match x with | (V499, J499, R499) => XW cy ad V499 J499 R499) (lvf := fun x : (Nat → Nat → Int) × (Nat → Nat → Int) × (Nat → Nat → Nat) => match x with | (V499, J499, R499) => [(5, vJ z485), (4, vI z483), (3, vI z384), (0, .ref (ad 98)), (1, .ref (ad 69)), (2, .ref (ad k2))]) (stf := fun x : (Nat → Nat → Int) × (Nat → Nat → Int) × (Nat → Nat → Nat) => match x with | (V499, J499, R499) => []) 122 (fun x hI499x => ?_) (fun jn499 => ?_)
    · obtain ⟨V499, J499, R499⟩ := x
      obtain ⟨hI499, hB499, hJ499, hR499, hE499, hF⟩ := hI499x
      try dsimp only
      replace hF := hF.to (jn_s3 hjf499)
      refine x_iinc C.1 (v := z384 + 1) (lv' := [(3, vI (z384 + 1)), (5, vJ z485), (4, vI z483), (0, .ref (ad 98)), (1, .ref (ad 69)), (2, .ref (ad k2))]) (by omega) dX2_goDry_122 2 rfl (by decide) rfl ?_
      refine x_goto C.1 (tgt := 2) dX2_goDry_125 (by decide) ?_
      refine x_lv [(3, vI (z384 + 1)), (0, .ref (ad 98)), (1, .ref (ad 69)), (2, .ref (ad k2))] [0, 3, 4, 5] rfl ?_
      have hmu385 : (476 - (z384 + 1)).toNat < (476 - z384).toNat := (by omega)
      exact ih385 (z384 + 1, V499, J499, R499) ⟨⟨by omega, by omega⟩, hI499, hB499, hJ499, hR499, hE499, ⟨nf385, Nat.lt_of_lt_of_le hmu385 (Nat.le_of_lt_succ hn385), hF⟩⟩ hmu385
    · refine x_if_eq C.1 (tgt := 54) dX2_goDry_36 (by decide) (by omega) (fun hc500 => ?_) (fun hc500 => ?_)
      · replace hF := hF.to (if_pos hc500)
        refine x_aload_n C.1 dX2_goDry_54 3 rfl ?_
        refine x_aload_n C.1 dX2_goDry_55 4 rfl ?_
        refine x_iload C.1 dX2_goDry_56 1 rfl ?_
        refine x_callVv C (As := [.ref (ad 69), vI z483]) (rest := []) 98 (xw_at (N := 129) (i := 98) (by decide) rfl) vc_X2 (s_lookAt l D cy ad G V385 J385 R385 hI385 hJ385 hR385 z483 ⟨by omega, by omega⟩) (l1 := []) (l2 := []) (List.append_nil _).symm (w2 := fun u : Nat → Nat → Int => XW cy ad u J385 R385) (fun _ => List.append_nil _) rfl wm_yX2_lookAt wn_X2 wl_X2_194 wi_yX2_lookAt we_yX2_lookAt hd_yX2_lookAt rfl ⟨Nat.le_of_ble_eq_true rfl, Nat.le_of_ble_eq_true rfl⟩ (Nat.le_of_ble_eq_true rfl) ⟨Nat.le_of_ble_eq_true rfl, Nat.le_of_ble_eq_true rfl⟩ dX2_goDry_58 (fun V501 h501 => ?_)
        obtain ⟨hI501, hBc501, hFc501⟩ := h501
        replace hF := calUX_i hF hFc501 hBc501
        have hB501 := hB385.tr hBc501 (fun i k h => (Or.inl h))
        refine x_aload_n C.1 dX2_goDry_61 4 rfl ?_
        refine x_aload_n C.1 dX2_goDry_62 5 rfl ?_
        refine x_bipush C.1 (n := 101) dX2_goDry_63 ?_
        refine x_bipush C.1 (n := 9) dX2_goDry_65 ?_
        refine x_callVi C (As := [.ref (ad k2), vI 101, vI 9]) (rest := []) 69 (xw_at (N := 129) (i := 69) (by decide) rfl) vc_X0 (s_ask l D cy ad G V501 J385 R385 hI501 hJ385 hR385 k2 hk2 101 ⟨by decide, by decide⟩ 9 ⟨by decide, by decide⟩) (l1 := []) (l2 := []) (List.append_nil _).symm (w2 := fun u : Nat → Nat → Int => XW cy ad u J385 R385) (fun _ => List.append_nil _) rfl wm_yX0_ask wn_X0 wl_X2_202 wi_yX0_ask we_yX0_ask hd_yX0_ask rfl ⟨Nat.le_of_ble_eq_true rfl, Nat.le_of_ble_eq_true rfl⟩ (Nat.le_of_ble_eq_true rfl) ⟨Nat.le_of_ble_eq_true rfl, Nat.le_of_ble_eq_true rfl⟩ dX2_goDry_67 (fun z502 V502 bz502 h502 => ?_)
        obtain ⟨hI502, bq502, hBc502, hFc502⟩ := h502
        replace hF := calVX_i hF hFc502 hBc502
        replace hF := hF.fc bq502
        have hB502 := hB501.tr hBc502 (fun i k h => (Or.inl h))
        refine x_istore C.1 (lv' := [(7, vI z502), (5, vJ z485), (4, vI z483), (3, vI z384), (0, .ref (ad 98)), (1, .ref (ad 69)), (2, .ref (ad k2))]) dX2_goDry_70 (by decide) rfl ?_
        refine x_iload C.1 dX2_goDry_72 0 rfl ?_
        refine x_aload_n C.1 dX2_goDry_74 5 rfl ?_
        refine x_aload_n C.1 dX2_goDry_75 6 rfl ?_
        refine x_bipush C.1 (n := 104) dX2_goDry_76 ?_
        refine x_bipush C.1 (n := 9) dX2_goDry_78 ?_
        refine x_callVi C (As := [.ref (ad k2), vI 104, vI 9]) (rest := [vI z502]) 69 (xw_at (N := 129) (i := 69) (by decide) rfl) vc_X0 (s_ask l D cy ad G V502 J385 R385 hI502 hJ385 hR385 k2 hk2 104 ⟨by decide, by decide⟩ 9 ⟨by decide, by decide⟩) (l1 := []) (l2 := []) (List.append_nil _).symm (w2 := fun u : Nat → Nat → Int => XW cy ad u J385 R385) (fun _ => List.append_nil _) rfl wm_yX0_ask wn_X0 wl_X2_202 wi_yX0_ask we_yX0_ask hd_yX0_ask rfl ⟨Nat.le_of_ble_eq_true rfl, Nat.le_of_ble_eq_true rfl⟩ (Nat.le_of_ble_eq_true rfl) ⟨Nat.le_of_ble_eq_true rfl, Nat.le_of_ble_eq_true rfl⟩ dX2_goDry_80 (fun z503 V503 bz503 h503 => ?_)
        obtain ⟨hI503, bq503, hBc503, hFc503⟩ := h503
        replace hF := calVX_i hF hFc503 hBc503
        replace hF := hF.fc bq503
        have hB503 := hB502.tr hBc503 (fun i k h => (Or.inl h))
        refine x_iadd C.1 (v := z502 + z503) (by omega) dX2_goDry_83 ?_
        refine x_istore C.1 (lv' := [(8, vI (z502 + z503)), (7, vI z502), (5, vJ z485), (4, vI z483), (3, vI z384), (0, .ref (ad 98)), (1, .ref (ad 69)), (2, .ref (ad k2))]) dX2_goDry_84 (by decide) rfl ?_
        refine x_aload_n C.1 dX2_goDry_86 5 rfl ?_
        refine x_aload_n C.1 dX2_goDry_87 5 rfl ?_
        refine x_iload C.1 dX2_goDry_88 3 rfl ?_
        refine x_iload C.1 dX2_goDry_90 1 rfl ?_
        refine x_callVi C (As := [vI z483, vI z502]) (rest := [.ref (ad 98)]) 98 (xw_at (N := 129) (i := 98) (by decide) rfl) vc_X2 (s_behind l D cy ad G V503 J385 R385 hI503 hJ385 hR385 z483 ⟨by omega, by omega⟩ z502 ⟨by omega, by omega⟩) (l1 := []) (l2 := []) (List.append_nil _).symm (w2 := fun _ => XW cy ad V503 J385 R385) (fun _ => List.append_nil _) rfl wm_yX2_behind wn_X2 wl_X2_206 wi_yX2_behind we_yX2_behind hd_yX2_behind rfl ⟨Nat.le_of_ble_eq_true rfl, Nat.le_of_ble_eq_true rfl⟩ (Nat.le_of_ble_eq_true rfl) ⟨Nat.le_of_ble_eq_true rfl, Nat.le_of_ble_eq_true rfl⟩ dX2_goDry_92 (fun z504 u504 bz504 h504 => ?_)
        have hFc504 := h504
        replace hF := calR_i hF hFc504
        refine x_lload C.1 dX2_goDry_95 2 rfl ?_
        refine x_ldc2 C.1 (n := 5) wq_X2_209 dX2_goDry_97 ?_
        refine x_lmul C.1 (v := 5 * z485) (by omega) dX2_goDry_100 ?_
        refine x_wrapJg ?_
        intro z505 bz505 ew505
        replace hF := hF.to (rdb_e (z := z505) ew505.symm)
        refine x_callVv C (As := [vI z504, vJ z505]) (rest := []) 98 (xw_at (N := 129) (i := 98) (by decide) rfl) vc_X2 (s_addC l D cy ad G V503 J385 R385 hI503 hJ385 hR385 z504 ⟨by omega, by omega⟩ z505 ⟨by omega, by omega⟩) (l1 := []) (l2 := []) (List.append_nil _).symm (w2 := fun u : xS => XW cy ad u.1 u.2.1 u.2.2) (fun _ => List.append_nil _) rfl wm_yX2_add wn_X2 wl_X2_110 wi_yX2_add we_yX2_add hd_yX2_add rfl ⟨Nat.le_of_ble_eq_true rfl, Nat.le_of_ble_eq_true rfl⟩ (Nat.le_of_ble_eq_true rfl) ⟨Nat.le_of_ble_eq_true rfl, Nat.le_of_ble_eq_true rfl⟩ dX2_goDry_101 (fun u506 h506 => ?_)
        obtain ⟨V506, J506, R506⟩ := u506
        obtain ⟨hS506, hBc506, hEc506, hFc506⟩ := h506
        replace hF := calTX_i hF hFc506 hBc506
        have hB506 := hB503.tr hBc506 (fun i k h => (Or.inr (h)))
        have hE506 : RK R506 Rr := RK.tr hE385 hEc506
        obtain ⟨hI506, hJ506, hR506⟩ := hS506
        dsimp only at hI506 hJ506 hR506 ⊢
        refine x_aload_n C.1 dX2_goDry_104 5 rfl ?_
        refine x_aload_n C.1 dX2_goDry_105 5 rfl ?_
        refine x_iload C.1 dX2_goDry_106 3 rfl ?_
        refine x_iload C.1 dX2_goDry_108 0 rfl ?_
        refine x_callVi C (As := [vI z483, vI (z502 + z503)]) (rest := [.ref (ad 98)]) 98 (xw_at (N := 129) (i := 98) (by decide) rfl) vc_X2 (s_behind l D cy ad G V506 J506 R506 hI506 hJ506 hR506 z483 ⟨by omega, by omega⟩ (z502 + z503) ⟨by omega, by omega⟩) (l1 := []) (l2 := []) (List.append_nil _).symm (w2 := fun _ => XW cy ad V506 J506 R506) (fun _ => List.append_nil _) rfl wm_yX2_behind wn_X2 wl_X2_206 wi_yX2_behind we_yX2_behind hd_yX2_behind rfl ⟨Nat.le_of_ble_eq_true rfl, Nat.le_of_ble_eq_true rfl⟩ (Nat.le_of_ble_eq_true rfl) ⟨Nat.le_of_ble_eq_true rfl, Nat.le_of_ble_eq_true rfl⟩ dX2_goDry_110 (fun z507 u507 bz507 h507 => ?_)
        have hFc507 := h507
        replace hF := calR_i hF hFc507
        refine x_lload C.1 dX2_goDry_113 2 rfl ?_
        refine x_ldc2 C.1 (n := 5) wq_X2_209 dX2_goDry_115 ?_
        refine x_lmul C.1 (v := 5 * z485) (by omega) dX2_goDry_118 ?_
        refine x_wrapJg ?_
        intro z508 bz508 ew508
        replace hF := hF.to (rdb_e (z := z508) ew508.symm)
        refine x_callVv C (As := [vI z507, vJ z508]) (rest := []) 98 (xw_at (N := 129) (i := 98) (by decide) rfl) vc_X2 (s_addC l D cy ad G V506 J506 R506 hI506 hJ506 hR506 z507 ⟨by omega, by omega⟩ z508 ⟨by omega, by omega⟩) (l1 := []) (l2 := []) (List.append_nil _).symm (w2 := fun u : xS => XW cy ad u.1 u.2.1 u.2.2) (fun _ => List.append_nil _) rfl wm_yX2_add wn_X2 wl_X2_110 wi_yX2_add we_yX2_add hd_yX2_add rfl ⟨Nat.le_of_ble_eq_true rfl, Nat.le_of_ble_eq_true rfl⟩ (Nat.le_of_ble_eq_true rfl) ⟨Nat.le_of_ble_eq_true rfl, Nat.le_of_ble_eq_true rfl⟩ dX2_goDry_119 (fun u509 h509 => ?_)
        obtain ⟨V509, J509, R509⟩ := u509
        obtain ⟨hS509, hBc509, hEc509, hFc509⟩ := h509
        replace hF := calTX_i hF hFc509 hBc509
        have hB509 := hB506.tr hBc509 (fun i k h => (Or.inr (h)))
        have hE509 : RK R509 Rr := RK.tr hE506 hEc509
        obtain ⟨hI509, hJ509, hR509⟩ := hS509
        dsimp only at hI509 hJ509 hR509 ⊢
        refine x_lv [(5, vJ z485), (4, vI z483), (3, vI z384), (0, .ref (ad 98)), (1, .ref (ad 69)), (2, .ref (ad k2))] [2, 3, 4, 5, 6, 7] rfl ?_
        exact jn499 (V509, J509, R509) ⟨hI509, hB509, hJ509, hR509, hE509, hF⟩
      · replace hF := hF.to (if_neg hc500)
        refine x_aload_n C.1 dX2_goDry_39 3 rfl ?_
        refine x_iload C.1 dX2_goDry_40 1 rfl ?_
        refine x_lload C.1 dX2_goDry_42 0 rfl ?_
        refine x_ldc2 C.1 (n := 10) wq_X2_182 dX2_goDry_44 ?_
        refine x_lmul C.1 (v := 10 * z485) (by omega) dX2_goDry_47 ?_
        refine x_wrapJg ?_
        intro z510 bz510 ew510
        replace hF := hF.to (rdb_e (z := z510) ew510.symm)
        refine x_callVv C (As := [vI z483, vJ z510]) (rest := []) 98 (xw_at (N := 129) (i := 98) (by decide) rfl) vc_X2 (s_addC l D cy ad G V385 J385 R385 hI385 hJ385 hR385 z483 ⟨by omega, by omega⟩ z510 ⟨by omega, by omega⟩) (l1 := []) (l2 := []) (List.append_nil _).symm (w2 := fun u : xS => XW cy ad u.1 u.2.1 u.2.2) (fun _ => List.append_nil _) rfl wm_yX2_add wn_X2 wl_X2_110 wi_yX2_add we_yX2_add hd_yX2_add rfl ⟨Nat.le_of_ble_eq_true rfl, Nat.le_of_ble_eq_true rfl⟩ (Nat.le_of_ble_eq_true rfl) ⟨Nat.le_of_ble_eq_true rfl, Nat.le_of_ble_eq_true rfl⟩ dX2_goDry_48 (fun u511 h511 => ?_)
        obtain ⟨V511, J511, R511⟩ := u511
        obtain ⟨hS511, hBc511, hEc511, hFc511⟩ := h511
        replace hF := calTX_i hF hFc511 hBc511
        have hB511 := hB385.tr hBc511 (fun i k h => (Or.inr (h)))
        have hE511 : RK R511 Rr := RK.tr hE385 hEc511
        obtain ⟨hI511, hJ511, hR511⟩ := hS511
        dsimp only at hI511 hJ511 hR511 ⊢
        refine x_goto C.1 (tgt := 122) dX2_goDry_51 (by decide) ?_
        exact jn499 (V511, J511, R511) ⟨hI511, hB511, hJ511, hR511, hE511, hF⟩
theorem dX2_living_0 : decode cX2_living 0 = .ok (.lconst 0, 1) := by decide +kernel
theorem dX2_living_1 : decode cX2_living 1 = .ok (.lstore_n 1, 1) := by decide +kernel
theorem dX2_living_2 : decode cX2_living 2 = .ok (.iconst 0, 1) := by decide +kernel
theorem dX2_living_3 : decode cX2_living 3 = .ok (.istore_n 3, 1) := by decide +kernel
theorem dX2_living_4 : decode cX2_living 4 = .ok (.iload_n 3, 1) := by decide +kernel
theorem dX2_living_5 : decode cX2_living 5 = .ok (.aload_n 0, 1) := by decide +kernel
theorem dX2_living_6 : decode cX2_living 6 = .ok (.getfield 176, 3) := by decide +kernel
theorem dX2_living_9 : decode cX2_living 9 = .ok (.if_icmp .ge 43, 3) := by decide +kernel
theorem dX2_living_12 : decode cX2_living 12 = .ok (.lload_n 1, 1) := by decide +kernel
theorem dX2_living_13 : decode cX2_living 13 = .ok (.aload_n 0, 1) := by decide +kernel
theorem dX2_living_14 : decode cX2_living 14 = .ok (.aload_n 0, 1) := by decide +kernel
theorem dX2_living_15 : decode cX2_living 15 = .ok (.getfield 18, 3) := by decide +kernel
theorem dX2_living_18 : decode cX2_living 18 = .ok (.iload_n 3, 1) := by decide +kernel
theorem dX2_living_19 : decode cX2_living 19 = .ok (.iaload, 1) := by decide +kernel
theorem dX2_living_20 : decode cX2_living 20 = .ok (.bipush 25, 2) := by decide +kernel
theorem dX2_living_22 : decode cX2_living 22 = .ok (.idiv, 1) := by decide +kernel
theorem dX2_living_23 : decode cX2_living 23 = .ok (.invokevirtual 190, 3) := by decide +kernel
theorem dX2_living_26 : decode cX2_living 26 = .ok (.ifCond .eq 7, 3) := by decide +kernel
theorem dX2_living_29 : decode cX2_living 29 = .ok (.lconst 0, 1) := by decide +kernel
theorem dX2_living_30 : decode cX2_living 30 = .ok (.goto 14, 3) := by decide +kernel
theorem dX2_living_33 : decode cX2_living 33 = .ok (.aload_n 0, 1) := by decide +kernel
theorem dX2_living_34 : decode cX2_living 34 = .ok (.getfield 11, 3) := by decide +kernel
theorem dX2_living_37 : decode cX2_living 37 = .ok (.aload_n 0, 1) := by decide +kernel
theorem dX2_living_38 : decode cX2_living 38 = .ok (.getfield 18, 3) := by decide +kernel
theorem dX2_living_41 : decode cX2_living 41 = .ok (.iload_n 3, 1) := by decide +kernel
theorem dX2_living_42 : decode cX2_living 42 = .ok (.iaload, 1) := by decide +kernel
theorem dX2_living_43 : decode cX2_living 43 = .ok (.laload, 1) := by decide +kernel
theorem dX2_living_44 : decode cX2_living 44 = .ok (.ladd, 1) := by decide +kernel
theorem dX2_living_45 : decode cX2_living 45 = .ok (.lstore_n 1, 1) := by decide +kernel
theorem dX2_living_46 : decode cX2_living 46 = .ok (.iinc 3 1, 3) := by decide +kernel
theorem dX2_living_49 : decode cX2_living 49 = .ok (.goto (-45), 3) := by decide +kernel
theorem dX2_living_52 : decode cX2_living 52 = .ok (.lload_n 1, 1) := by decide +kernel
theorem dX2_living_53 : decode cX2_living 53 = .ok (.lreturn, 1) := by decide +kernel
set_option maxRecDepth 100000 in
def f_s_living (V : Nat → Nat → Int) (J : Nat → Nat → Int) (Rr : Nat → Nat → Nat) : (Int) → Prop :=
  lop2 (477) (fun rc96 (z94 : Int) (z95 : Int) => rdb (V 98 4) fun z111 => fct (0 ≤ z111 ∧ z111 ≤ 475) <| (if z111 ≤ z94 then rtn z95 else rdb (Rr 98 2) fun t113 => rdb (V t113 z94.toNat) fun z114 => fct (0 ≤ z114 ∧ z114 ≤ 474) <| rdb (iDiv z114 25) fun z115 => fct (0 ≤ z115 ∧ z115 ≤ 474) <| calR (f_s_isDeadC z115 V J Rr) fun z116 => fct (0 ≤ z116 ∧ z116 ≤ 1) <| jnk (fun (z119 : Int) => rdb (wrJ (z95 + z119)) fun z121 => rc96 (z94 + 1) z121) fun jf120 => (if z116 = 0 then rdb (Rr 98 0) fun t123 => rdb (J t123 z114.toNat) fun z124 => jf120 z124 else jf120 0))) 0 0
set_option maxHeartbeats 8000000 in
set_option maxRecDepth 100000 in
theorem s_living (l : Launch) (D : va_G) (cy : Nat → ClassId) (ad : Nat → Nat) (G : Nat → Nat → Int) (V J : Nat → Nat → Int) (Rr : Nat → Nat → Nat) (hI : XI G V) (hJ : VJ J) (hR : XR Rr)  : xMl l D (xTY cy) yX2_living cX2_living 4 (some .long) 2 42 0 0 [.ref (ad 98)] (XW cy ad V J Rr) (fun _ : Unit => XW cy ad V J Rr) (fun a (u : Unit) => (f_s_living V J Rr) a) := by
  refine xMl.mk (lv0 := [(0, .ref (ad 98))]) (by decide) rfl (Nat.le_of_ble_eq_true rfl) (fun p e s m below meth c A C hr hnm hAe => ?_)
  have C : xC2 p s m _ meth c D A s.heap 4 cX2_living RX2 (xTY cy) := C
  have hF := Imp.of_eq (f_s_living.eq_def V J Rr)
  refine x_lconst0 C.1 dX2_living_0 ?_
  refine x_lstore_n C.1 (lv' := [(1, vJ 0), (0, .ref (ad 98))]) dX2_living_1 (by decide) rfl ?_
  refine x_iconst C.1 (n := 0) dX2_living_2 ?_
  refine x_istore_n C.1 (lv' := [(3, vI 0), (1, vJ 0), (0, .ref (ad 98))]) dX2_living_3 (by decide) rfl ?_
  obtain ⟨bd96, hbd96, hF⟩ := lop2_ex hF
  refine x_loop (I := fun x : Int × Int => match x with | (z94, z95) => (0 ≤ z94 ∧ z94 ≤ 475) ∧ (-9223372036854775808 ≤ z95 ∧ z95 ≤ 9223372036854775807) ∧ (∃ nf : Nat, (476 - z94).toNat < nf ∧ Imp (lop2 nf bd96 z94 z95) (f_s_living V J Rr))) (μ := fun x : Int × Int => match x with | (z94, z95) => (476 - z94).toNat) (wsf := fun x : Int × Int => match x with | (z94, z95) => XW cy ad V J Rr) (lvf := fun x : Int × Int => match x with | (z94, z95) => [(3, vI z94), (1, vJ z95), (0, .ref (ad 98))]) (fun x hI96x ih96 => ?_) (0, 0) ⟨⟨by decide, by decide⟩, ⟨by decide, by decide⟩, ⟨_, (by omega), hF⟩⟩ rfl rfl
  obtain ⟨z94, z95⟩ := x
  obtain ⟨bz94, bz95, nf96, hn96, hF⟩ := hI96x
  try dsimp only
  obtain ⟨nf96, rfl⟩ : ∃ mm, nf96 = mm + 1 := ⟨nf96 - 1, (Nat.succ_pred_eq_of_pos (Nat.lt_of_le_of_lt (Nat.zero_le _) hn96)).symm⟩
  replace hF := hF.to (lop2_s hbd96)
  refine x_iload_n C.1 dX2_living_4 0 rfl ?_
  refine x_aload_n C.1 dX2_living_5 2 rfl ?_
  obtain ⟨z111, ez111, bz111⟩ := hI.rd 98 4 (x := 0) (y := 475) rfl
  replace hF := hF.to (rdb_e (z := z111) ez111)
  replace hF := hF.fc bz111
  refine x_getI C (N := 129) (i := 98) (by decide) rfl vc_X2 wx_X2 4 (by decide) wf_X2_176 rfl dX2_living_6 (a := z111) ez111 ?_
  refine x_icmp_ge C.1 (tgt := 52) dX2_living_9 (by decide) (by omega) (by omega) (fun hc112 => ?_) (fun hc112 => ?_)
  · replace hF := hF.to (if_pos hc112)
    refine x_lload_n C.1 dX2_living_52 1 rfl ?_
    exact x_lret (S := Unit) (post := (fun a (u : Unit) => (f_s_living V J Rr) a)) (w1 := (fun _ : Unit => XW cy ad V J Rr)) (a := z95) C hr rfl dX2_living_53 (by omega) () rfl (hF _ rfl)
  · replace hF := hF.to (if_neg hc112)
    refine x_lload_n C.1 dX2_living_12 1 rfl ?_
    refine x_aload_n C.1 dX2_living_13 2 rfl ?_
    refine x_aload_n C.1 dX2_living_14 2 rfl ?_
    obtain ⟨t113, et113, ht113⟩ := XR.st hR (k := 2) (by decide)
    replace hF := hF.to (rdb_e (z := t113) et113)
    refine x_getR C (N := 129) (i := 98) (by decide) rfl vc_X2 wx_X2 2 (by decide) wf_X2_18 rfl dX2_living_15 (a := t113) et113 ?_
    refine x_iload_n C.1 dX2_living_18 0 rfl ?_
    obtain ⟨z114, ez114, bz114⟩ := hI.rd t113 z94.toNat (x := 0) (y := 474) (rg_St ht113 _)
    replace hF := hF.to (rdb_e (z := z114) ez114)
    replace hF := hF.fc bz114
    refine x_iald C (N := 129) (i := t113) (q := z94) (by omega) (xd_St ht113) (by omega) (by decide) dX2_living_19 (a := z114) ez114 ?_
    refine x_bipush C.1 (n := 25) dX2_living_20 ?_
    obtain ⟨z115, hz115, bz115⟩ : ∃ z : Int, iDiv z114 25 = z ∧ (0 ≤ z ∧ z ≤ 474) := ⟨_, rfl, iDiv_n (by omega) (by omega)⟩
    replace hF := hF.to (rdb_e (z := z115) hz115)
    replace hF := hF.fc bz115
    refine x_idiv C.1 (v := z115) hz115 dX2_living_22 (by decide) (by decide) ?_
    refine x_callVi C (As := [vI z115]) (rest := [vJ z95]) 98 (xw_at (N := 129) (i := 98) (by decide) rfl) vc_X2 (s_isDeadC l D cy ad G V J Rr hI hJ hR z115 ⟨by omega, by omega⟩) (l1 := []) (l2 := []) (List.append_nil _).symm (w2 := fun _ => XW cy ad V J Rr) (fun _ => List.append_nil _) rfl wm_yX2_isDead wn_X2 wl_X2_190 wi_yX2_isDead we_yX2_isDead hd_yX2_isDead rfl ⟨Nat.le_of_ble_eq_true rfl, Nat.le_of_ble_eq_true rfl⟩ (Nat.le_of_ble_eq_true rfl) ⟨Nat.le_of_ble_eq_true rfl, Nat.le_of_ble_eq_true rfl⟩ dX2_living_23 (fun z116 u116 bz116 h116 => ?_)
    obtain ⟨bq116, hFc116⟩ := h116
    replace hF := calR_i hF hFc116
    replace hF := hF.fc bq116
    obtain ⟨jf120, hjf120, hF⟩ := jn_ex hF
    refine x_join (I := fun z119 : Int => (-9223372036854775808 ≤ z119 ∧ z119 ≤ 9223372036854775807) ∧ Imp (jf120 z119) (f_s_living V J Rr)) (wsf := fun z119 : Int => XW cy ad V J Rr) (lvf := fun z119 : Int => [(3, vI z94), (1, vJ z95), (0, .ref (ad 98))]) (stf := fun z119 : Int => [vJ z119, vJ z95]) 44 (fun z119 hI120x => ?_) (fun jn120 => ?_)
    · obtain ⟨bz119, hF⟩ := hI120x
      try dsimp only
      replace hF := hF.to (jn_s1 hjf120)
      refine x_ladd C.1 (v := z95 + z119) (by omega) dX2_living_44 ?_
      refine x_wrapJg ?_
      intro z121 bz121 ew121
      replace hF := hF.to (rdb_e (z := z121) ew121.symm)
      refine x_lstore_n C.1 (lv' := [(1, vJ z121), (3, vI z94), (0, .ref (ad 98))]) dX2_living_45 (by decide) rfl ?_
      refine x_iinc C.1 (v := z94 + 1) (lv' := [(3, vI (z94 + 1)), (1, vJ z121), (0, .ref (ad 98))]) (by omega) dX2_living_46 1 rfl (by decide) rfl ?_
      refine x_goto C.1 (tgt := 4) dX2_living_49 (by decide) ?_
      have hmu96 : (476 - (z94 + 1)).toNat < (476 - z94).toNat := (by omega)
      exact ih96 (z94 + 1, z121) ⟨⟨by omega, by omega⟩, ⟨by omega, by omega⟩, ⟨nf96, Nat.lt_of_lt_of_le hmu96 (Nat.le_of_lt_succ hn96), hF⟩⟩ hmu96
    · refine x_if_eq C.1 (tgt := 33) dX2_living_26 (by decide) (by omega) (fun hc122 => ?_) (fun hc122 => ?_)
      · replace hF := hF.to (if_pos hc122)
        refine x_aload_n C.1 dX2_living_33 2 rfl ?_
        obtain ⟨t123, et123, ht123⟩ := XR.w hR (k := 0) (by decide)
        replace hF := hF.to (rdb_e (z := t123) et123)
        refine x_getR C (N := 129) (i := 98) (by decide) rfl vc_X2 wx_X2 0 (by decide) wf_X2_11 rfl dX2_living_34 (a := t123) et123 ?_
        refine x_aload_n C.1 dX2_living_37 2 rfl ?_
        refine x_getR C (N := 129) (i := 98) (by decide) rfl vc_X2 wx_X2 2 (by decide) wf_X2_18 rfl dX2_living_38 (a := t113) et113 ?_
        refine x_iload_n C.1 dX2_living_41 0 rfl ?_
        refine x_iald C (N := 129) (i := t113) (q := z94) (by omega) (xd_St ht113) (by omega) (by decide) dX2_living_42 (a := z114) ez114 ?_
        obtain ⟨z124, ez124, bz124⟩ := hJ.rd t123 z114.toNat
        replace hF := hF.to (rdb_e (z := z124) ez124)
        refine x_lald C (N := 129) (i := t123) (q := z114) (by omega) (xd_Wt ht123) (by omega) (by decide) dX2_living_43 (a := z124) ez124 ?_
        exact jn120 z124 ⟨⟨by omega, by omega⟩, hF⟩
      · replace hF := hF.to (if_neg hc122)
        refine x_lconst0 C.1 dX2_living_29 ?_
        refine x_goto C.1 (tgt := 44) dX2_living_30 (by decide) ?_
        exact jn120 0 ⟨⟨by decide, by decide⟩, hF⟩
theorem dX2_wetIs_0 : decode cX2_wetIs 0 = .ok (.lconst 0, 1) := by decide +kernel
theorem dX2_wetIs_1 : decode cX2_wetIs 1 = .ok (.lstore_n 2, 1) := by decide +kernel
theorem dX2_wetIs_2 : decode cX2_wetIs 2 = .ok (.iconst 0, 1) := by decide +kernel
theorem dX2_wetIs_3 : decode cX2_wetIs 3 = .ok (.istore 4, 2) := by decide +kernel
theorem dX2_wetIs_5 : decode cX2_wetIs 5 = .ok (.iload 4, 2) := by decide +kernel
theorem dX2_wetIs_7 : decode cX2_wetIs 7 = .ok (.aload_n 0, 1) := by decide +kernel
theorem dX2_wetIs_8 : decode cX2_wetIs 8 = .ok (.getfield 176, 3) := by decide +kernel
theorem dX2_wetIs_11 : decode cX2_wetIs 11 = .ok (.if_icmp .ge 42, 3) := by decide +kernel
theorem dX2_wetIs_14 : decode cX2_wetIs 14 = .ok (.lload_n 2, 1) := by decide +kernel
theorem dX2_wetIs_15 : decode cX2_wetIs 15 = .ok (.aload_n 0, 1) := by decide +kernel
theorem dX2_wetIs_16 : decode cX2_wetIs 16 = .ok (.getfield 18, 3) := by decide +kernel
theorem dX2_wetIs_19 : decode cX2_wetIs 19 = .ok (.iload 4, 2) := by decide +kernel
theorem dX2_wetIs_21 : decode cX2_wetIs 21 = .ok (.iaload, 1) := by decide +kernel
theorem dX2_wetIs_22 : decode cX2_wetIs 22 = .ok (.bipush 25, 2) := by decide +kernel
theorem dX2_wetIs_24 : decode cX2_wetIs 24 = .ok (.irem, 1) := by decide +kernel
theorem dX2_wetIs_25 : decode cX2_wetIs 25 = .ok (.iload_n 1, 1) := by decide +kernel
theorem dX2_wetIs_26 : decode cX2_wetIs 26 = .ok (.if_icmp .ne 18, 3) := by decide +kernel
theorem dX2_wetIs_29 : decode cX2_wetIs 29 = .ok (.aload_n 0, 1) := by decide +kernel
theorem dX2_wetIs_30 : decode cX2_wetIs 30 = .ok (.getfield 11, 3) := by decide +kernel
theorem dX2_wetIs_33 : decode cX2_wetIs 33 = .ok (.aload_n 0, 1) := by decide +kernel
theorem dX2_wetIs_34 : decode cX2_wetIs 34 = .ok (.getfield 18, 3) := by decide +kernel
theorem dX2_wetIs_37 : decode cX2_wetIs 37 = .ok (.iload 4, 2) := by decide +kernel
theorem dX2_wetIs_39 : decode cX2_wetIs 39 = .ok (.iaload, 1) := by decide +kernel
theorem dX2_wetIs_40 : decode cX2_wetIs 40 = .ok (.laload, 1) := by decide +kernel
theorem dX2_wetIs_41 : decode cX2_wetIs 41 = .ok (.goto 4, 3) := by decide +kernel
theorem dX2_wetIs_44 : decode cX2_wetIs 44 = .ok (.lconst 0, 1) := by decide +kernel
theorem dX2_wetIs_45 : decode cX2_wetIs 45 = .ok (.ladd, 1) := by decide +kernel
theorem dX2_wetIs_46 : decode cX2_wetIs 46 = .ok (.lstore_n 2, 1) := by decide +kernel
theorem dX2_wetIs_47 : decode cX2_wetIs 47 = .ok (.iinc 4 1, 3) := by decide +kernel
theorem dX2_wetIs_50 : decode cX2_wetIs 50 = .ok (.goto (-45), 3) := by decide +kernel
theorem dX2_wetIs_53 : decode cX2_wetIs 53 = .ok (.lload_n 2, 1) := by decide +kernel
theorem dX2_wetIs_54 : decode cX2_wetIs 54 = .ok (.lreturn, 1) := by decide +kernel
set_option maxRecDepth 100000 in
def f_s_wetIs (x1 : Int) (V : Nat → Nat → Int) (J : Nat → Nat → Int) (Rr : Nat → Nat → Nat) : (Int) → Prop :=
  lop2 (477) (fun rc90 (z88 : Int) (z89 : Int) => rdb (V 98 4) fun z104 => fct (0 ≤ z104 ∧ z104 ≤ 475) <| (if z104 ≤ z88 then rtn z89 else rdb (Rr 98 2) fun t106 => rdb (V t106 z88.toNat) fun z107 => fct (0 ≤ z107 ∧ z107 ≤ 474) <| rdb (iRem z107 25) fun z108 => fct (0 ≤ z108 ∧ z108 ≤ 24) <| jnk (fun (z111 : Int) => rdb (wrJ (z89 + z111)) fun z113 => rc90 (z88 + 1) z113) fun jf112 => (if ¬ z108 = x1 then jf112 0 else rdb (Rr 98 0) fun t115 => rdb (J t115 z107.toNat) fun z116 => jf112 z116))) 0 0
set_option maxHeartbeats 8000000 in
set_option maxRecDepth 100000 in
theorem s_wetIs (l : Launch) (D : va_G) (cy : Nat → ClassId) (ad : Nat → Nat) (G : Nat → Nat → Int) (V J : Nat → Nat → Int) (Rr : Nat → Nat → Nat) (hI : XI G V) (hJ : VJ J) (hR : XR Rr) (x1 : Int) (bx1 : -2147483648 ≤ x1 ∧ x1 ≤ 2147483647) : xMl l D (xTY cy) yX2_wetIs cX2_wetIs 5 (some .long) 0 0 0 0 [.ref (ad 98), vI x1] (XW cy ad V J Rr) (fun _ : Unit => XW cy ad V J Rr) (fun a (u : Unit) => (f_s_wetIs x1 V J Rr) a) := by
  refine xMl.mk (lv0 := [(0, .ref (ad 98)), (1, vI x1)]) (by decide) rfl (Nat.le_of_ble_eq_true rfl) (fun p e s m below meth c A C hr hnm hAe => ?_)
  have C : xC2 p s m _ meth c D A s.heap 5 cX2_wetIs RX2 (xTY cy) := C
  have hF := Imp.of_eq (f_s_wetIs.eq_def x1 V J Rr)
  refine x_lconst0 C.1 dX2_wetIs_0 ?_
  refine x_lstore_n C.1 (lv' := [(2, vJ 0), (0, .ref (ad 98)), (1, vI x1)]) dX2_wetIs_1 (by decide) rfl ?_
  refine x_iconst C.1 (n := 0) dX2_wetIs_2 ?_
  refine x_istore C.1 (lv' := [(4, vI 0), (2, vJ 0), (0, .ref (ad 98)), (1, vI x1)]) dX2_wetIs_3 (by decide) rfl ?_
  obtain ⟨bd90, hbd90, hF⟩ := lop2_ex hF
  refine x_loop (I := fun x : Int × Int => match x with | (z88, z89) => (0 ≤ z88 ∧ z88 ≤ 475) ∧ (-9223372036854775808 ≤ z89 ∧ z89 ≤ 9223372036854775807) ∧ (∃ nf : Nat, (476 - z88).toNat < nf ∧ Imp (lop2 nf bd90 z88 z89) (f_s_wetIs x1 V J Rr))) (μ := fun x : Int × Int => match x with | (z88, z89) => (476 - z88).toNat) (wsf := fun x : Int × Int => match x with | (z88, z89) => XW cy ad V J Rr) (lvf := fun x : Int × Int => match x with | (z88, z89) => [(4, vI z88), (2, vJ z89), (0, .ref (ad 98)), (1, vI x1)]) (fun x hI90x ih90 => ?_) (0, 0) ⟨⟨by decide, by decide⟩, ⟨by decide, by decide⟩, ⟨_, (by omega), hF⟩⟩ rfl rfl
  obtain ⟨z88, z89⟩ := x
  obtain ⟨bz88, bz89, nf90, hn90, hF⟩ := hI90x
  try dsimp only
  obtain ⟨nf90, rfl⟩ : ∃ mm, nf90 = mm + 1 := ⟨nf90 - 1, (Nat.succ_pred_eq_of_pos (Nat.lt_of_le_of_lt (Nat.zero_le _) hn90)).symm⟩
  replace hF := hF.to (lop2_s hbd90)
  refine x_iload C.1 dX2_wetIs_5 0 rfl ?_
  refine x_aload_n C.1 dX2_wetIs_7 2 rfl ?_
  obtain ⟨z104, ez104, bz104⟩ := hI.rd 98 4 (x := 0) (y := 475) rfl
  replace hF := hF.to (rdb_e (z := z104) ez104)
  replace hF := hF.fc bz104
  refine x_getI C (N := 129) (i := 98) (by decide) rfl vc_X2 wx_X2 4 (by decide) wf_X2_176 rfl dX2_wetIs_8 (a := z104) ez104 ?_
  refine x_icmp_ge C.1 (tgt := 53) dX2_wetIs_11 (by decide) (by omega) (by omega) (fun hc105 => ?_) (fun hc105 => ?_)
  · replace hF := hF.to (if_pos hc105)
    refine x_lload_n C.1 dX2_wetIs_53 1 rfl ?_
    exact x_lret (S := Unit) (post := (fun a (u : Unit) => (f_s_wetIs x1 V J Rr) a)) (w1 := (fun _ : Unit => XW cy ad V J Rr)) (a := z89) C hr rfl dX2_wetIs_54 (by omega) () rfl (hF _ rfl)
  · replace hF := hF.to (if_neg hc105)
    refine x_lload_n C.1 dX2_wetIs_14 1 rfl ?_
    refine x_aload_n C.1 dX2_wetIs_15 2 rfl ?_
    obtain ⟨t106, et106, ht106⟩ := XR.st hR (k := 2) (by decide)
    replace hF := hF.to (rdb_e (z := t106) et106)
    refine x_getR C (N := 129) (i := 98) (by decide) rfl vc_X2 wx_X2 2 (by decide) wf_X2_18 rfl dX2_wetIs_16 (a := t106) et106 ?_
    refine x_iload C.1 dX2_wetIs_19 0 rfl ?_
    obtain ⟨z107, ez107, bz107⟩ := hI.rd t106 z88.toNat (x := 0) (y := 474) (rg_St ht106 _)
    replace hF := hF.to (rdb_e (z := z107) ez107)
    replace hF := hF.fc bz107
    refine x_iald C (N := 129) (i := t106) (q := z88) (by omega) (xd_St ht106) (by omega) (by decide) dX2_wetIs_21 (a := z107) ez107 ?_
    refine x_bipush C.1 (n := 25) dX2_wetIs_22 ?_
    obtain ⟨z108, hz108, bz108⟩ : ∃ z : Int, iRem z107 25 = z ∧ (0 ≤ z ∧ z ≤ 24) := ⟨_, rfl, iRem_n (by omega) (by omega)⟩
    replace hF := hF.to (rdb_e (z := z108) hz108)
    replace hF := hF.fc bz108
    refine x_irem C.1 (v := z108) hz108 dX2_wetIs_24 (by decide) (by decide) ?_
    refine x_iload_n C.1 dX2_wetIs_25 3 rfl ?_
    obtain ⟨jf112, hjf112, hF⟩ := jn_ex hF
    refine x_join (I := fun z111 : Int => (-9223372036854775808 ≤ z111 ∧ z111 ≤ 9223372036854775807) ∧ Imp (jf112 z111) (f_s_wetIs x1 V J Rr)) (wsf := fun z111 : Int => XW cy ad V J Rr) (lvf := fun z111 : Int => [(4, vI z88), (2, vJ z89), (0, .ref (ad 98)), (1, vI x1)]) (stf := fun z111 : Int => [vJ z111, vJ z89]) 45 (fun z111 hI112x => ?_) (fun jn112 => ?_)
    · obtain ⟨bz111, hF⟩ := hI112x
      try dsimp only
      replace hF := hF.to (jn_s1 hjf112)
      refine x_ladd C.1 (v := z89 + z111) (by omega) dX2_wetIs_45 ?_
      refine x_wrapJg ?_
      intro z113 bz113 ew113
      replace hF := hF.to (rdb_e (z := z113) ew113.symm)
      refine x_lstore_n C.1 (lv' := [(2, vJ z113), (4, vI z88), (0, .ref (ad 98)), (1, vI x1)]) dX2_wetIs_46 (by decide) rfl ?_
      refine x_iinc C.1 (v := z88 + 1) (lv' := [(4, vI (z88 + 1)), (2, vJ z113), (0, .ref (ad 98)), (1, vI x1)]) (by omega) dX2_wetIs_47 1 rfl (by decide) rfl ?_
      refine x_goto C.1 (tgt := 5) dX2_wetIs_50 (by decide) ?_
      have hmu90 : (476 - (z88 + 1)).toNat < (476 - z88).toNat := (by omega)
      exact ih90 (z88 + 1, z113) ⟨⟨by omega, by omega⟩, ⟨by omega, by omega⟩, ⟨nf90, Nat.lt_of_lt_of_le hmu90 (Nat.le_of_lt_succ hn90), hF⟩⟩ hmu90
    · refine x_icmp_ne C.1 (tgt := 44) dX2_wetIs_26 (by decide) (by omega) (by omega) (fun hc114 => ?_) (fun hc114 => ?_)
      · replace hF := hF.to (if_pos hc114)
        refine x_lconst0 C.1 dX2_wetIs_44 ?_
        exact jn112 0 ⟨⟨by decide, by decide⟩, hF⟩
      · replace hF := hF.to (if_neg (fun hh => hh hc114))
        refine x_aload_n C.1 dX2_wetIs_29 2 rfl ?_
        obtain ⟨t115, et115, ht115⟩ := XR.w hR (k := 0) (by decide)
        replace hF := hF.to (rdb_e (z := t115) et115)
        refine x_getR C (N := 129) (i := 98) (by decide) rfl vc_X2 wx_X2 0 (by decide) wf_X2_11 rfl dX2_wetIs_30 (a := t115) et115 ?_
        refine x_aload_n C.1 dX2_wetIs_33 2 rfl ?_
        refine x_getR C (N := 129) (i := 98) (by decide) rfl vc_X2 wx_X2 2 (by decide) wf_X2_18 rfl dX2_wetIs_34 (a := t106) et106 ?_
        refine x_iload C.1 dX2_wetIs_37 0 rfl ?_
        refine x_iald C (N := 129) (i := t106) (q := z88) (by omega) (xd_St ht106) (by omega) (by decide) dX2_wetIs_39 (a := z107) ez107 ?_
        obtain ⟨z116, ez116, bz116⟩ := hJ.rd t115 z107.toNat
        replace hF := hF.to (rdb_e (z := z116) ez116)
        refine x_lald C (N := 129) (i := t115) (q := z107) (by omega) (xd_Wt ht115) (by omega) (by decide) dX2_wetIs_40 (a := z116) ez116 ?_
        refine x_goto C.1 (tgt := 45) dX2_wetIs_41 (by decide) ?_
        exact jn112 z116 ⟨⟨by omega, by omega⟩, hF⟩
theorem hd_yX2_clear : yX2_clear.cls ≠ "java/lang/invoke/MethodHandle" ∧ yX2_clear.cls ≠ "java/lang/invoke/VarHandle" ∧ (parseMethodDescriptor yX2_clear.desc).map (fun d => d.parameters.length) = some 0 := by decide +kernel
theorem hd_yX2_comeBy : yX2_comeBy.cls ≠ "java/lang/invoke/MethodHandle" ∧ yX2_comeBy.cls ≠ "java/lang/invoke/VarHandle" ∧ (parseMethodDescriptor yX2_comeBy.desc).map (fun d => d.parameters.length) = some 3 := by decide +kernel
theorem hd_yX2_goDry : yX2_goDry.cls ≠ "java/lang/invoke/MethodHandle" ∧ yX2_goDry.cls ≠ "java/lang/invoke/VarHandle" ∧ (parseMethodDescriptor yX2_goDry.desc).map (fun d => d.parameters.length) = some 2 := by decide +kernel
theorem hd_yX2_living : yX2_living.cls ≠ "java/lang/invoke/MethodHandle" ∧ yX2_living.cls ≠ "java/lang/invoke/VarHandle" ∧ (parseMethodDescriptor yX2_living.desc).map (fun d => d.parameters.length) = some 0 := by decide +kernel
theorem dX2_lives_0 : decode cX2_lives 0 = .ok (.aload_n 0, 1) := by decide +kernel
theorem dX2_lives_1 : decode cX2_lives 1 = .ok (.getfield 50, 3) := by decide +kernel
theorem dX2_lives_4 : decode cX2_lives 4 = .ok (.aload_n 0, 1) := by decide +kernel
theorem dX2_lives_5 : decode cX2_lives 5 = .ok (.getfield 46, 3) := by decide +kernel
theorem dX2_lives_8 : decode cX2_lives 8 = .ok (.invokestatic 68, 3) := by decide +kernel
theorem dX2_lives_11 : decode cX2_lives 11 = .ok (.istore 4, 2) := by decide +kernel
theorem dX2_lives_13 : decode cX2_lives 13 = .ok (.aload_n 0, 1) := by decide +kernel
theorem dX2_lives_14 : decode cX2_lives 14 = .ok (.invokevirtual 104, 3) := by decide +kernel
theorem dX2_lives_17 : decode cX2_lives 17 = .ok (.aload_n 0, 1) := by decide +kernel
theorem dX2_lives_18 : decode cX2_lives 18 = .ok (.aload_n 0, 1) := by decide +kernel
theorem dX2_lives_19 : decode cX2_lives 19 = .ok (.getfield 65, 3) := by decide +kernel
theorem dX2_lives_22 : decode cX2_lives 22 = .ok (.iload 4, 2) := by decide +kernel
theorem dX2_lives_24 : decode cX2_lives 24 = .ok (.invokestatic 107, 3) := by decide +kernel
theorem dX2_lives_27 : decode cX2_lives 27 = .ok (.lconst 1, 1) := by decide +kernel
theorem dX2_lives_28 : decode cX2_lives 28 = .ok (.invokevirtual 110, 3) := by decide +kernel
theorem dX2_lives_31 : decode cX2_lives 31 = .ok (.aload_n 0, 1) := by decide +kernel
theorem dX2_lives_32 : decode cX2_lives 32 = .ok (.invokevirtual 114, 3) := by decide +kernel
theorem dX2_lives_35 : decode cX2_lives 35 = .ok (.aload_n 0, 1) := by decide +kernel
theorem dX2_lives_36 : decode cX2_lives 36 = .ok (.lconst 1, 1) := by decide +kernel
theorem dX2_lives_37 : decode cX2_lives 37 = .ok (.putfield 117, 3) := by decide +kernel
theorem dX2_lives_40 : decode cX2_lives 40 = .ok (.aload_n 2, 1) := by decide +kernel
theorem dX2_lives_41 : decode cX2_lives 41 = .ok (.getfield 121, 3) := by decide +kernel
theorem dX2_lives_44 : decode cX2_lives 44 = .ok (.astore 5, 2) := by decide +kernel
theorem dX2_lives_46 : decode cX2_lives 46 = .ok (.aload 5, 2) := by decide +kernel
theorem dX2_lives_48 : decode cX2_lives 48 = .ok (.invokevirtual 127, 3) := by decide +kernel
theorem dX2_lives_51 : decode cX2_lives 51 = .ok (.aload 5, 2) := by decide +kernel
theorem dX2_lives_53 : decode cX2_lives 53 = .ok (.bipush 108, 2) := by decide +kernel
theorem dX2_lives_55 : decode cX2_lives 55 = .ok (.aload_n 0, 1) := by decide +kernel
theorem dX2_lives_56 : decode cX2_lives 56 = .ok (.getfield 37, 3) := by decide +kernel
theorem dX2_lives_59 : decode cX2_lives 59 = .ok (.invokevirtual 132, 3) := by decide +kernel
theorem dX2_lives_62 : decode cX2_lives 62 = .ok (.aload 5, 2) := by decide +kernel
theorem dX2_lives_64 : decode cX2_lives 64 = .ok (.bipush 111, 2) := by decide +kernel
theorem dX2_lives_66 : decode cX2_lives 66 = .ok (.aload_n 0, 1) := by decide +kernel
theorem dX2_lives_67 : decode cX2_lives 67 = .ok (.getfield 46, 3) := by decide +kernel
theorem dX2_lives_70 : decode cX2_lives 70 = .ok (.invokevirtual 132, 3) := by decide +kernel
theorem dX2_lives_73 : decode cX2_lives 73 = .ok (.aload 5, 2) := by decide +kernel
theorem dX2_lives_75 : decode cX2_lives 75 = .ok (.bipush 115, 2) := by decide +kernel
theorem dX2_lives_77 : decode cX2_lives 77 = .ok (.iload 4, 2) := by decide +kernel
theorem dX2_lives_79 : decode cX2_lives 79 = .ok (.invokevirtual 132, 3) := by decide +kernel
theorem dX2_lives_82 : decode cX2_lives 82 = .ok (.aload 5, 2) := by decide +kernel
theorem dX2_lives_84 : decode cX2_lives 84 = .ok (.bipush 97, 2) := by decide +kernel
theorem dX2_lives_86 : decode cX2_lives 86 = .ok (.bipush 99, 2) := by decide +kernel
theorem dX2_lives_88 : decode cX2_lives 88 = .ok (.invokevirtual 132, 3) := by decide +kernel
theorem dX2_lives_91 : decode cX2_lives 91 = .ok (.iconst 0, 1) := by decide +kernel
theorem dX2_lives_92 : decode cX2_lives 92 = .ok (.istore 6, 2) := by decide +kernel
theorem dX2_lives_94 : decode cX2_lives 94 = .ok (.iload 6, 2) := by decide +kernel
theorem dX2_lives_96 : decode cX2_lives 96 = .ok (.iload_n 3, 1) := by decide +kernel
theorem dX2_lives_97 : decode cX2_lives 97 = .ok (.if_icmp .ge 115, 3) := by decide +kernel
theorem dX2_lives_100 : decode cX2_lives 100 = .ok (.aload 5, 2) := by decide +kernel
theorem dX2_lives_102 : decode cX2_lives 102 = .ok (.aload_n 1, 1) := by decide +kernel
theorem dX2_lives_103 : decode cX2_lives 103 = .ok (.getfield 136, 3) := by decide +kernel
theorem dX2_lives_106 : decode cX2_lives 106 = .ok (.iload 6, 2) := by decide +kernel
theorem dX2_lives_108 : decode cX2_lives 108 = .ok (.iadd, 1) := by decide +kernel
theorem dX2_lives_109 : decode cX2_lives 109 = .ok (.aload_n 1, 1) := by decide +kernel
theorem dX2_lives_110 : decode cX2_lives 110 = .ok (.getfield 139, 3) := by decide +kernel
theorem dX2_lives_113 : decode cX2_lives 113 = .ok (.invokevirtual 142, 3) := by decide +kernel
theorem dX2_lives_116 : decode cX2_lives 116 = .ok (.iconst 0, 1) := by decide +kernel
theorem dX2_lives_117 : decode cX2_lives 117 = .ok (.istore 7, 2) := by decide +kernel
theorem dX2_lives_119 : decode cX2_lives 119 = .ok (.iload 7, 2) := by decide +kernel
theorem dX2_lives_121 : decode cX2_lives 121 = .ok (.aload_n 0, 1) := by decide +kernel
theorem dX2_lives_122 : decode cX2_lives 122 = .ok (.getfield 73, 3) := by decide +kernel
theorem dX2_lives_125 : decode cX2_lives 125 = .ok (.if_icmp .ge 66, 3) := by decide +kernel
theorem dX2_lives_128 : decode cX2_lives 128 = .ok (.aload_n 2, 1) := by decide +kernel
theorem dX2_lives_129 : decode cX2_lives 129 = .ok (.getfield 146, 3) := by decide +kernel
theorem dX2_lives_132 : decode cX2_lives 132 = .ok (.aload_n 1, 1) := by decide +kernel
theorem dX2_lives_133 : decode cX2_lives 133 = .ok (.getfield 83, 3) := by decide +kernel
theorem dX2_lives_136 : decode cX2_lives 136 = .ok (.aload_n 0, 1) := by decide +kernel
theorem dX2_lives_137 : decode cX2_lives 137 = .ok (.getfield 25, 3) := by decide +kernel
theorem dX2_lives_140 : decode cX2_lives 140 = .ok (.iload 7, 2) := by decide +kernel
theorem dX2_lives_142 : decode cX2_lives 142 = .ok (.iaload, 1) := by decide +kernel
theorem dX2_lives_143 : decode cX2_lives 143 = .ok (.aaload, 1) := by decide +kernel
theorem dX2_lives_144 : decode cX2_lives 144 = .ok (.getfield 150, 3) := by decide +kernel
theorem dX2_lives_147 : decode cX2_lives 147 = .ok (.aaload, 1) := by decide +kernel
theorem dX2_lives_148 : decode cX2_lives 148 = .ok (.astore 8, 2) := by decide +kernel
theorem dX2_lives_150 : decode cX2_lives 150 = .ok (.aload 5, 2) := by decide +kernel
theorem dX2_lives_152 : decode cX2_lives 152 = .ok (.aload_n 0, 1) := by decide +kernel
theorem dX2_lives_153 : decode cX2_lives 153 = .ok (.getfield 25, 3) := by decide +kernel
theorem dX2_lives_156 : decode cX2_lives 156 = .ok (.iload 7, 2) := by decide +kernel
theorem dX2_lives_158 : decode cX2_lives 158 = .ok (.iaload, 1) := by decide +kernel
theorem dX2_lives_159 : decode cX2_lives 159 = .ok (.aload_n 0, 1) := by decide +kernel
theorem dX2_lives_160 : decode cX2_lives 160 = .ok (.getfield 28, 3) := by decide +kernel
theorem dX2_lives_163 : decode cX2_lives 163 = .ok (.iload 7, 2) := by decide +kernel
theorem dX2_lives_165 : decode cX2_lives 165 = .ok (.iaload, 1) := by decide +kernel
theorem dX2_lives_166 : decode cX2_lives 166 = .ok (.iconst 0, 1) := by decide +kernel
theorem dX2_lives_167 : decode cX2_lives 167 = .ok (.invokevirtual 153, 3) := by decide +kernel
theorem dX2_lives_170 : decode cX2_lives 170 = .ok (.aload_n 0, 1) := by decide +kernel
theorem dX2_lives_171 : decode cX2_lives 171 = .ok (.aload 5, 2) := by decide +kernel
theorem dX2_lives_173 : decode cX2_lives 173 = .ok (.aload 8, 2) := by decide +kernel
theorem dX2_lives_175 : decode cX2_lives 175 = .ok (.aload_n 0, 1) := by decide +kernel
theorem dX2_lives_176 : decode cX2_lives 176 = .ok (.getfield 28, 3) := by decide +kernel
theorem dX2_lives_179 : decode cX2_lives 179 = .ok (.iload 7, 2) := by decide +kernel
theorem dX2_lives_181 : decode cX2_lives 181 = .ok (.iaload, 1) := by decide +kernel
theorem dX2_lives_182 : decode cX2_lives 182 = .ok (.invokevirtual 157, 3) := by decide +kernel
theorem dX2_lives_185 : decode cX2_lives 185 = .ok (.iinc 7 1, 3) := by decide +kernel
theorem dX2_lives_188 : decode cX2_lives 188 = .ok (.goto (-69), 3) := by decide +kernel
theorem dX2_lives_191 : decode cX2_lives 191 = .ok (.aload 5, 2) := by decide +kernel
theorem dX2_lives_193 : decode cX2_lives 193 = .ok (.invokevirtual 161, 3) := by decide +kernel
theorem dX2_lives_196 : decode cX2_lives 196 = .ok (.aload_n 0, 1) := by decide +kernel
theorem dX2_lives_197 : decode cX2_lives 197 = .ok (.aload 5, 2) := by decide +kernel
theorem dX2_lives_199 : decode cX2_lives 199 = .ok (.aload_n 2, 1) := by decide +kernel
theorem dX2_lives_200 : decode cX2_lives 200 = .ok (.getfield 164, 3) := by decide +kernel
theorem dX2_lives_203 : decode cX2_lives 203 = .ok (.invokevirtual 168, 3) := by decide +kernel
theorem dX2_lives_206 : decode cX2_lives 206 = .ok (.iinc 6 1, 3) := by decide +kernel
theorem dX2_lives_209 : decode cX2_lives 209 = .ok (.goto (-115), 3) := by decide +kernel
theorem dX2_lives_212 : decode cX2_lives 212 = .ok (.aload_n 0, 1) := by decide +kernel
theorem dX2_lives_213 : decode cX2_lives 213 = .ok (.invokevirtual 172, 3) := by decide +kernel
theorem dX2_lives_216 : decode cX2_lives 216 = .ok (.lreturn, 1) := by decide +kernel
set_option maxRecDepth 100000 in
def f_s_lives (k1 : Nat) (x3 : Int) (V : Nat → Nat → Int) (J : Nat → Nat → Int) (Rr : Nat → Nat → Nat) : (Int × xS) → Prop :=
  rdb (V 98 11) fun z1 => rdb (V 98 10) fun z2 => rdb (min z1 z2) fun z3 => calTX (fun i k : Nat => (98 ≤ i ∧ i ≤ 104)) V (f_s_clear V J Rr) fun V4 J4 R4 => rdb (V4 98 12) fun z5 => calR (f_s_stateOf z5 z3) fun z6 => calTX (fun i k : Nat => (98 ≤ i ∧ i ≤ 104)) V4 (f_s_addC z6 1 V4 J4 R4) fun V7 J7 R7 => calTX (fun i k : Nat => (98 ≤ i ∧ i ≤ 104)) V7 (f_s_goOn V7 J7 R7) fun V8 J8 R8 => rdb (up2 J8 98 16 1) fun J9 => calUX (fun i k : Nat => (70 ≤ i ∧ i ≤ 70)) V8 (f_s_ofNothing V8 J9 R8) fun V10 => rdb (V10 98 9) fun z11 => calUX (fun i k : Nat => (69 ≤ i ∧ i ≤ 71)) V10 (f_s_putA 108 z11 V10 J9 R8) fun V12 => rdb (V12 98 10) fun z13 => calUX (fun i k : Nat => (69 ≤ i ∧ i ≤ 71)) V12 (f_s_putA 111 z13 V12 J9 R8) fun V14 => calUX (fun i k : Nat => (69 ≤ i ∧ i ≤ 71)) V14 (f_s_putA 115 z3 V14 J9 R8) fun V15 => calUX (fun i k : Nat => (69 ≤ i ∧ i ≤ 71)) V15 (f_s_putA 97 99 V15 J9 R8) fun V16 => lop4 (11) (fun rc1653 (z1652 : Int) (V1653 : Nat → Nat → Int) (J1653 : Nat → Nat → Int) (R1653 : Nat → Nat → Nat) => (if x3 ≤ z1652 then calR (f_s_living V1653 J1653 R1653) fun z2062 => rtn (z2062, (V1653, J1653, R1653)) else rdb (V1653 k1 3) fun z2063 => rdb (wr (z2063 + z1652)) fun z2064 => rdb (V1653 k1 2) fun z2065 => calUX (fun i k : Nat => (69 ≤ i ∧ i ≤ 71)) V1653 (f_s_onDay z2064 z2065 V1653 J1653 R1653) fun V2066 => lop4 (5) (fun rc2155 (z2154 : Int) (V2155 : Nat → Nat → Int) (J2155 : Nat → Nat → Int) (R2155 : Nat → Nat → Nat) => rdb (V2155 98 8) fun z2177 => fct (0 ≤ z2177 ∧ z2177 ≤ 3) <| (if z2177 ≤ z2154 then calUX (fun i k : Nat => (69 ≤ i ∧ i ≤ 71)) V2155 (f_s_byNobody V2155 J2155 R2155) fun V2187 => rdb (R2155 60 0) fun t2188 => calTX (fun i k : Nat => (69 ≤ i ∧ i ≤ 71) ∨ (98 ≤ i ∧ i ≤ 104)) V2187 (f_s_goDry t2188 V2187 J2155 R2155) fun V2189 J2189 R2189 => rc1653 (z1652 + 1) V2189 J2189 R2189 else rdb (V2155 103 z2154.toNat) fun z2190 => fct (0 ≤ z2190 ∧ z2190 ≤ 7) <| rdb (k1 + 11 + 1 * z2190.toNat) fun c2191 => rdb (V2155 c2191 2) fun z2192 => fct (0 ≤ z2192 ∧ z2192 ≤ 3) <| rdb (R2155 66 z2192.toNat) fun t2193 => rdb (V2155 104 z2154.toNat) fun z2194 => calUX (fun i k : Nat => (69 ≤ i ∧ i ≤ 71)) V2155 (f_s_by z2190 z2194 0 V2155 J2155 R2155) fun V2195 => rdb (V2195 104 z2154.toNat) fun z2196 => calTX (fun i k : Nat => (98 ≤ i ∧ i ≤ 104) ∨ (69 ≤ i ∧ i ≤ 71)) V2195 (f_s_comeBy t2193 z2196 V2195 J2155 R2155) fun V2197 J2197 R2197 => rc2155 (z2154 + 1) V2197 J2197 R2197)) 0 V2066 J1653 R1653)) 0 V16 J9 R8
set_option maxHeartbeats 8000000 in
set_option maxRecDepth 100000 in
theorem s_lives (l : Launch) (D : va_G) (cy : Nat → ClassId) (ad : Nat → Nat) (G : Nat → Nat → Int) (V J : Nat → Nat → Int) (Rr : Nat → Nat → Nat) (hI : XI G V) (hJ : VJ J) (hR : XR Rr) (k1 : Nat) (hk1 : isLa k1) (x3 : Int) (bx3 : 0 ≤ x3 ∧ x3 ≤ 9) : xMl l D (xTY cy) yX2_lives cX2_lives 9 (some .long) 5 127 0 0 [.ref (ad 98), .ref (ad k1), .ref (ad 60), vI x3] (XW cy ad V J Rr) (fun u : xS => XW cy ad u.1 u.2.1 u.2.2) (fun a (u : xS) => XS G u ∧ FB (fun i k : Nat => (98 ≤ i ∧ i ≤ 104) ∨ (70 ≤ i ∧ i ≤ 70) ∨ (69 ≤ i ∧ i ≤ 71)) V u.1 ∧ RK u.2.2 Rr ∧ (f_s_lives k1 x3 V J Rr) (a, u)) := by
  refine xMl.mk (lv0 := [(0, .ref (ad 98)), (1, .ref (ad k1)), (2, .ref (ad 60)), (3, vI x3)]) (by decide) rfl (Nat.le_of_ble_eq_true rfl) (fun p e s m below meth c A C hr hnm hAe => ?_)
  have C : xC2 p s m _ meth c D A s.heap 9 cX2_lives RX2 (xTY cy) := C
  have hB : FB (fun i k : Nat => (98 ≤ i ∧ i ≤ 104) ∨ (70 ≤ i ∧ i ≤ 70) ∨ (69 ≤ i ∧ i ≤ 71)) V V := FB.rf _ _
  have hF := Imp.of_eq (f_s_lives.eq_def k1 x3 V J Rr)
  refine x_aload_n C.1 dX2_lives_0 0 rfl ?_
  obtain ⟨z1, ez1, bz1⟩ := hI.rd 98 11 (x := -2147483648) (y := 2147483647) rfl
  replace hF := hF.to (rdb_e (z := z1) ez1)
  refine x_getI C (N := 129) (i := 98) (by decide) rfl vc_X2 wx_X2 11 (by decide) wf_X2_50 rfl dX2_lives_1 (a := z1) ez1 ?_
  refine x_aload_n C.1 dX2_lives_4 0 rfl ?_
  obtain ⟨z2, ez2, bz2⟩ := hI.rd 98 10 (x := -2147483648) (y := 2147483647) rfl
  replace hF := hF.to (rdb_e (z := z2) ez2)
  refine x_getI C (N := 129) (i := 98) (by decide) rfl vc_X2 wx_X2 10 (by decide) wf_X2_46 rfl dX2_lives_5 (a := z2) ez2 ?_
  refine x_mmin C wl_X2_68 (by omega) (by omega) dX2_lives_8 ⟨Nat.le_of_ble_eq_true rfl, Nat.le_of_ble_eq_true rfl⟩ (Nat.le_of_ble_eq_true rfl) ⟨Nat.le_of_ble_eq_true rfl, Nat.le_of_ble_eq_true rfl⟩ (fun z3 hx3 => ?_)
  have bz3 : -2147483648 ≤ z3 ∧ z3 ≤ 2147483647 := by omega
  replace hF := hF.to (rdb_e (z := z3) (by omega))
  clear hx3
  refine x_istore C.1 (lv' := [(4, vI z3), (0, .ref (ad 98)), (1, .ref (ad k1)), (2, .ref (ad 60)), (3, vI x3)]) dX2_lives_11 (by decide) rfl ?_
  refine x_aload_n C.1 dX2_lives_13 1 rfl ?_
  refine x_callVv C (As := []) (rest := []) 98 (xw_at (N := 129) (i := 98) (by decide) rfl) vc_X2 (s_clear l D cy ad G V J Rr hI hJ hR ) (l1 := []) (l2 := []) (List.append_nil _).symm (w2 := fun u : xS => XW cy ad u.1 u.2.1 u.2.2) (fun _ => List.append_nil _) rfl wm_yX2_clear wn_X2 wl_X2_104 wi_yX2_clear we_yX2_clear hd_yX2_clear rfl ⟨Nat.le_of_ble_eq_true rfl, Nat.le_of_ble_eq_true rfl⟩ (Nat.le_of_ble_eq_true rfl) ⟨Nat.le_of_ble_eq_true rfl, Nat.le_of_ble_eq_true rfl⟩ dX2_lives_14 (fun u4 h4 => ?_)
  obtain ⟨V4, J4, R4⟩ := u4
  obtain ⟨hS4, hBc4, hEc4, hFc4⟩ := h4
  replace hF := calTX_i hF hFc4 hBc4
  have hB4 := hB.tr hBc4 (fun i k h => (Or.inl h))
  have hE4 : RK R4 Rr := RK.tr (RK.rf _) hEc4
  obtain ⟨hI4, hJ4, hR4⟩ := hS4
  dsimp only at hI4 hJ4 hR4 ⊢
  refine x_aload_n C.1 dX2_lives_17 1 rfl ?_
  refine x_aload_n C.1 dX2_lives_18 1 rfl ?_
  obtain ⟨z5, ez5, bz5⟩ := hI4.rd 98 12 (x := -2147483648) (y := 2147483647) rfl
  replace hF := hF.to (rdb_e (z := z5) ez5)
  refine x_getI C (N := 129) (i := 98) (by decide) rfl vc_X2 wx_X2 12 (by decide) wf_X2_65 rfl dX2_lives_19 (a := z5) ez5 ?_
  refine x_iload C.1 dX2_lives_22 0 rfl ?_
  refine x_callSi C (As := [vI z5, vI z3]) (rest := [.ref (ad 98)]) (s_stateOf l D cy z5 ⟨by omega, by omega⟩ z3 ⟨by omega, by omega⟩) (l1 := []) (l2 := _) rfl (w2 := fun _ => _) (fun _ => rfl) rfl wm_yX2_stateOf wn_X2 wl_X2_107 wi_yX2_stateOf hd_yX2_stateOf rfl ⟨Nat.le_of_ble_eq_true rfl, Nat.le_of_ble_eq_true rfl⟩ (Nat.le_of_ble_eq_true rfl) ⟨Nat.le_of_ble_eq_true rfl, Nat.le_of_ble_eq_true rfl⟩ dX2_lives_24 (fun z6 u6 bz6 h6 => ?_)
  have hFc6 := h6
  replace hF := calR_i hF hFc6
  refine x_lconst1 C.1 dX2_lives_27 ?_
  refine x_callVv C (As := [vI z6, vJ 1]) (rest := []) 98 (xw_at (N := 129) (i := 98) (by decide) rfl) vc_X2 (s_addC l D cy ad G V4 J4 R4 hI4 hJ4 hR4 z6 ⟨by omega, by omega⟩ 1 ⟨by decide, by decide⟩) (l1 := []) (l2 := []) (List.append_nil _).symm (w2 := fun u : xS => XW cy ad u.1 u.2.1 u.2.2) (fun _ => List.append_nil _) rfl wm_yX2_add wn_X2 wl_X2_110 wi_yX2_add we_yX2_add hd_yX2_add rfl ⟨Nat.le_of_ble_eq_true rfl, Nat.le_of_ble_eq_true rfl⟩ (Nat.le_of_ble_eq_true rfl) ⟨Nat.le_of_ble_eq_true rfl, Nat.le_of_ble_eq_true rfl⟩ dX2_lives_28 (fun u7 h7 => ?_)
  obtain ⟨V7, J7, R7⟩ := u7
  obtain ⟨hS7, hBc7, hEc7, hFc7⟩ := h7
  replace hF := calTX_i hF hFc7 hBc7
  have hB7 := hB4.tr hBc7 (fun i k h => (Or.inl h))
  have hE7 : RK R7 Rr := RK.tr hE4 hEc7
  obtain ⟨hI7, hJ7, hR7⟩ := hS7
  dsimp only at hI7 hJ7 hR7 ⊢
  refine x_aload_n C.1 dX2_lives_31 1 rfl ?_
  refine x_callVv C (As := []) (rest := []) 98 (xw_at (N := 129) (i := 98) (by decide) rfl) vc_X2 (s_goOn l D cy ad G V7 J7 R7 hI7 hJ7 hR7 ) (l1 := []) (l2 := []) (List.append_nil _).symm (w2 := fun u : xS => XW cy ad u.1 u.2.1 u.2.2) (fun _ => List.append_nil _) rfl wm_yX2_goOn wn_X2 wl_X2_114 wi_yX2_goOn we_yX2_goOn hd_yX2_goOn rfl ⟨Nat.le_of_ble_eq_true rfl, Nat.le_of_ble_eq_true rfl⟩ (Nat.le_of_ble_eq_true rfl) ⟨Nat.le_of_ble_eq_true rfl, Nat.le_of_ble_eq_true rfl⟩ dX2_lives_32 (fun u8 h8 => ?_)
  obtain ⟨V8, J8, R8⟩ := u8
  obtain ⟨hS8, hBc8, hEc8, hFc8⟩ := h8
  replace hF := calTX_i hF hFc8 hBc8
  have hB8 := hB7.tr hBc8 (fun i k h => (Or.inl h))
  have hE8 : RK R8 Rr := RK.tr hE7 hEc8
  obtain ⟨hI8, hJ8, hR8⟩ := hS8
  dsimp only at hI8 hJ8 hR8 ⊢
  refine x_aload_n C.1 dX2_lives_35 1 rfl ?_
  refine x_lconst1 C.1 dX2_lives_36 ?_
  refine x_putJ C (N := 129) (i := 98) (by decide) rfl vc_X2 wx_X2 16 (by decide) wf_X2_117 tyX2 tyX2_ok nmX2 rfl (tyX2_ok 16 (by decide)) rfl dX2_lives_37 rfl rfl ?_
  refine x_gJ ?_
  intro J9 hJe9
  have hJ9 : VJ J9 := hJ8.upS hJe9 (by decide)
  replace hF := hF.to (rdb_e (z := J9) hJe9.symm)
  refine x_aload_n C.1 dX2_lives_40 3 rfl ?_
  refine x_getA C (N := 129) (i := 60) (by decide) rfl vc_X1 wx_X1 4 (by decide) wf_X2_121 (a := 69) rfl dX2_lives_41 ?_
  refine x_astore C.1 (lv' := [(5, .ref (ad 69)), (4, vI z3), (0, .ref (ad 98)), (1, .ref (ad k1)), (2, .ref (ad 60)), (3, vI x3)]) dX2_lives_44 (by decide) rfl ?_
  refine x_aload C.1 dX2_lives_46 0 rfl ?_
  refine x_callVv C (As := []) (rest := []) 69 (xw_at (N := 129) (i := 69) (by decide) rfl) vc_X0 (s_ofNothing l D cy ad G V8 J9 R8 hI8 hJ9 hR8 ) (l1 := []) (l2 := []) (List.append_nil _).symm (w2 := fun u : Nat → Nat → Int => XW cy ad u J9 R8) (fun _ => List.append_nil _) rfl wm_yX0_ofNothing wn_X0 wl_X2_127 wi_yX0_ofNothing we_yX0_ofNothing hd_yX0_ofNothing rfl ⟨Nat.le_of_ble_eq_true rfl, Nat.le_of_ble_eq_true rfl⟩ (Nat.le_of_ble_eq_true rfl) ⟨Nat.le_of_ble_eq_true rfl, Nat.le_of_ble_eq_true rfl⟩ dX2_lives_48 (fun V10 h10 => ?_)
  obtain ⟨hI10, hBc10, hFc10⟩ := h10
  replace hF := calUX_i hF hFc10 hBc10
  have hB10 := hB8.tr hBc10 (fun i k h => (Or.inr (Or.inl h)))
  refine x_aload C.1 dX2_lives_51 0 rfl ?_
  refine x_bipush C.1 (n := 108) dX2_lives_53 ?_
  refine x_aload_n C.1 dX2_lives_55 2 rfl ?_
  obtain ⟨z11, ez11, bz11⟩ := hI10.rd 98 9 (x := -2147483648) (y := 2147483647) rfl
  replace hF := hF.to (rdb_e (z := z11) ez11)
  refine x_getI C (N := 129) (i := 98) (by decide) rfl vc_X2 wx_X2 9 (by decide) wf_X2_37 rfl dX2_lives_56 (a := z11) ez11 ?_
  refine x_callVv C (As := [vI 108, vI z11]) (rest := []) 69 (xw_at (N := 129) (i := 69) (by decide) rfl) vc_X0 (s_putA l D cy ad G V10 J9 R8 hI10 hJ9 hR8 108 ⟨by decide, by decide⟩ z11 ⟨by omega, by omega⟩) (l1 := []) (l2 := []) (List.append_nil _).symm (w2 := fun u : Nat → Nat → Int => XW cy ad u J9 R8) (fun _ => List.append_nil _) rfl wm_yX0_put wn_X0 wl_X2_132 wi_yX0_put we_yX0_put hd_yX0_put rfl ⟨Nat.le_of_ble_eq_true rfl, Nat.le_of_ble_eq_true rfl⟩ (Nat.le_of_ble_eq_true rfl) ⟨Nat.le_of_ble_eq_true rfl, Nat.le_of_ble_eq_true rfl⟩ dX2_lives_59 (fun V12 h12 => ?_)
  obtain ⟨hI12, hBc12, hFc12⟩ := h12
  replace hF := calUX_i hF hFc12 hBc12
  have hB12 := hB10.tr hBc12 (fun i k h => (Or.inr (Or.inr (h))))
  refine x_aload C.1 dX2_lives_62 0 rfl ?_
  refine x_bipush C.1 (n := 111) dX2_lives_64 ?_
  refine x_aload_n C.1 dX2_lives_66 2 rfl ?_
  obtain ⟨z13, ez13, bz13⟩ := hI12.rd 98 10 (x := -2147483648) (y := 2147483647) rfl
  replace hF := hF.to (rdb_e (z := z13) ez13)
  refine x_getI C (N := 129) (i := 98) (by decide) rfl vc_X2 wx_X2 10 (by decide) wf_X2_46 rfl dX2_lives_67 (a := z13) ez13 ?_
  refine x_callVv C (As := [vI 111, vI z13]) (rest := []) 69 (xw_at (N := 129) (i := 69) (by decide) rfl) vc_X0 (s_putA l D cy ad G V12 J9 R8 hI12 hJ9 hR8 111 ⟨by decide, by decide⟩ z13 ⟨by omega, by omega⟩) (l1 := []) (l2 := []) (List.append_nil _).symm (w2 := fun u : Nat → Nat → Int => XW cy ad u J9 R8) (fun _ => List.append_nil _) rfl wm_yX0_put wn_X0 wl_X2_132 wi_yX0_put we_yX0_put hd_yX0_put rfl ⟨Nat.le_of_ble_eq_true rfl, Nat.le_of_ble_eq_true rfl⟩ (Nat.le_of_ble_eq_true rfl) ⟨Nat.le_of_ble_eq_true rfl, Nat.le_of_ble_eq_true rfl⟩ dX2_lives_70 (fun V14 h14 => ?_)
  obtain ⟨hI14, hBc14, hFc14⟩ := h14
  replace hF := calUX_i hF hFc14 hBc14
  have hB14 := hB12.tr hBc14 (fun i k h => (Or.inr (Or.inr (h))))
  refine x_aload C.1 dX2_lives_73 0 rfl ?_
  refine x_bipush C.1 (n := 115) dX2_lives_75 ?_
  refine x_iload C.1 dX2_lives_77 1 rfl ?_
  refine x_callVv C (As := [vI 115, vI z3]) (rest := []) 69 (xw_at (N := 129) (i := 69) (by decide) rfl) vc_X0 (s_putA l D cy ad G V14 J9 R8 hI14 hJ9 hR8 115 ⟨by decide, by decide⟩ z3 ⟨by omega, by omega⟩) (l1 := []) (l2 := []) (List.append_nil _).symm (w2 := fun u : Nat → Nat → Int => XW cy ad u J9 R8) (fun _ => List.append_nil _) rfl wm_yX0_put wn_X0 wl_X2_132 wi_yX0_put we_yX0_put hd_yX0_put rfl ⟨Nat.le_of_ble_eq_true rfl, Nat.le_of_ble_eq_true rfl⟩ (Nat.le_of_ble_eq_true rfl) ⟨Nat.le_of_ble_eq_true rfl, Nat.le_of_ble_eq_true rfl⟩ dX2_lives_79 (fun V15 h15 => ?_)
  obtain ⟨hI15, hBc15, hFc15⟩ := h15
  replace hF := calUX_i hF hFc15 hBc15
  have hB15 := hB14.tr hBc15 (fun i k h => (Or.inr (Or.inr (h))))
  refine x_aload C.1 dX2_lives_82 0 rfl ?_
  refine x_bipush C.1 (n := 97) dX2_lives_84 ?_
  refine x_bipush C.1 (n := 99) dX2_lives_86 ?_
  refine x_callVv C (As := [vI 97, vI 99]) (rest := []) 69 (xw_at (N := 129) (i := 69) (by decide) rfl) vc_X0 (s_putA l D cy ad G V15 J9 R8 hI15 hJ9 hR8 97 ⟨by decide, by decide⟩ 99 ⟨by decide, by decide⟩) (l1 := []) (l2 := []) (List.append_nil _).symm (w2 := fun u : Nat → Nat → Int => XW cy ad u J9 R8) (fun _ => List.append_nil _) rfl wm_yX0_put wn_X0 wl_X2_132 wi_yX0_put we_yX0_put hd_yX0_put rfl ⟨Nat.le_of_ble_eq_true rfl, Nat.le_of_ble_eq_true rfl⟩ (Nat.le_of_ble_eq_true rfl) ⟨Nat.le_of_ble_eq_true rfl, Nat.le_of_ble_eq_true rfl⟩ dX2_lives_88 (fun V16 h16 => ?_)
  obtain ⟨hI16, hBc16, hFc16⟩ := h16
  replace hF := calUX_i hF hFc16 hBc16
  have hB16 := hB15.tr hBc16 (fun i k h => (Or.inr (Or.inr (h))))
  refine x_iconst C.1 (n := 0) dX2_lives_91 ?_
  refine x_istore C.1 (lv' := [(6, vI 0), (5, .ref (ad 69)), (4, vI z3), (0, .ref (ad 98)), (1, .ref (ad k1)), (2, .ref (ad 60)), (3, vI x3)]) dX2_lives_92 (by decide) rfl ?_
  obtain ⟨bd1653, hbd1653, hF⟩ := lop4_ex hF
  refine x_loop (I := fun x : Int × (Nat → Nat → Int) × (Nat → Nat → Int) × (Nat → Nat → Nat) => match x with | (z1652, V1653, J1653, R1653) => (0 ≤ z1652 ∧ z1652 ≤ 9) ∧ XI G V1653 ∧ FB (fun i k : Nat => (98 ≤ i ∧ i ≤ 104) ∨ (70 ≤ i ∧ i ≤ 70) ∨ (69 ≤ i ∧ i ≤ 71)) V V1653 ∧ VJ J1653 ∧ XR R1653 ∧ RK R1653 Rr ∧ (∃ nf : Nat, (10 - z1652).toNat < nf ∧ Imp (lop4 nf bd1653 z1652 V1653 J1653 R1653) (f_s_lives k1 x3 V J Rr))) (μ := fun x : Int × (Nat → Nat → Int) × (Nat → Nat → Int) × (Nat → Nat → Nat) => match x with | (z1652, V1653, J1653, R1653) => (10 - z1652).toNat) (wsf := fun x : Int × (Nat → Nat → Int) × (Nat → Nat → Int) × (Nat → Nat → Nat) => match x with | (z1652, V1653, J1653, R1653) => XW cy ad V1653 J1653 R1653) (lvf := fun x : Int × (Nat → Nat → Int) × (Nat → Nat → Int) × (Nat → Nat → Nat) => match x with | (z1652, V1653, J1653, R1653) => [(6, vI z1652), (5, .ref (ad 69)), (4, vI z3), (0, .ref (ad 98)), (1, .ref (ad k1)), (2, .ref (ad 60)), (3, vI x3)]) (fun x hI1653x ih1653 => ?_) (0, V16, J9, R8) ⟨⟨by decide, by decide⟩, hI16, hB16, hJ9, hR8, hE8, ⟨_, (by omega), hF⟩⟩ rfl rfl
  obtain ⟨z1652, V1653, J1653, R1653⟩ := x
  obtain ⟨bz1652, hI1653, hB1653, hJ1653, hR1653, hE1653, nf1653, hn1653, hF⟩ := hI1653x
  try dsimp only
  obtain ⟨nf1653, rfl⟩ : ∃ mm, nf1653 = mm + 1 := ⟨nf1653 - 1, (Nat.succ_pred_eq_of_pos (Nat.lt_of_le_of_lt (Nat.zero_le _) hn1653)).symm⟩
  replace hF := hF.to (lop4_s hbd1653)
  refine x_iload C.1 dX2_lives_94 0 rfl ?_
  refine x_iload_n C.1 dX2_lives_96 6 rfl ?_
  refine x_icmp_ge C.1 (tgt := 212) dX2_lives_97 (by decide) (by omega) (by omega) (fun hc2061 => ?_) (fun hc2061 => ?_)
  · replace hF := hF.to (if_pos hc2061)
    refine x_aload_n C.1 dX2_lives_212 3 rfl ?_
    refine x_callVl C (As := []) (rest := []) 98 (xw_at (N := 129) (i := 98) (by decide) rfl) vc_X2 (s_living l D cy ad G V1653 J1653 R1653 hI1653 hJ1653 hR1653 ) (l1 := []) (l2 := []) (List.append_nil _).symm (w2 := fun _ => XW cy ad V1653 J1653 R1653) (fun _ => List.append_nil _) rfl wm_yX2_living wn_X2 wl_X2_172 wi_yX2_living we_yX2_living hd_yX2_living rfl ⟨Nat.le_of_ble_eq_true rfl, Nat.le_of_ble_eq_true rfl⟩ (Nat.le_of_ble_eq_true rfl) ⟨Nat.le_of_ble_eq_true rfl, Nat.le_of_ble_eq_true rfl⟩ dX2_lives_213 (fun z2062 u2062 bz2062 h2062 => ?_)
    have hFc2062 := h2062
    replace hF := calR_i hF hFc2062
    exact x_lret (S := xS) (post := (fun a (u : xS) => XS G u ∧ FB (fun i k : Nat => (98 ≤ i ∧ i ≤ 104) ∨ (70 ≤ i ∧ i ≤ 70) ∨ (69 ≤ i ∧ i ≤ 71)) V u.1 ∧ RK u.2.2 Rr ∧ (f_s_lives k1 x3 V J Rr) (a, u))) (w1 := (fun u : xS => XW cy ad u.1 u.2.1 u.2.2)) (a := z2062) C hr rfl dX2_lives_216 (by omega) (V1653, J1653, R1653) rfl ⟨⟨hI1653, hJ1653, hR1653⟩, hB1653, hE1653, hF _ rfl⟩
  · replace hF := hF.to (if_neg hc2061)
    refine x_aload C.1 dX2_lives_100 1 rfl ?_
    refine x_aload_n C.1 dX2_lives_102 4 rfl ?_
    obtain ⟨z2063, ez2063, bz2063⟩ := hI1653.rd k1 3 (x := -2147483648) (y := 2147483647) (rg_L hk1 _)
    replace hF := hF.to (rdb_e (z := z2063) ez2063)
    refine x_getI C (N := 129) (i := k1) (by omega) (xd_L hk1) vc_X3 wx_X3 3 (by decide) wf_X2_136 rfl dX2_lives_103 (a := z2063) ez2063 ?_
    refine x_iload C.1 dX2_lives_106 0 rfl ?_
    refine x_iadd C.1 (v := z2063 + z1652) (by omega) dX2_lives_108 ?_
    refine x_wrapg ?_
    intro z2064 bz2064 ew2064
    replace hF := hF.to (rdb_e (z := z2064) ew2064.symm)
    refine x_aload_n C.1 dX2_lives_109 4 rfl ?_
    obtain ⟨z2065, ez2065, bz2065⟩ := hI1653.rd k1 2 (x := -2147483648) (y := 2147483647) (rg_L hk1 _)
    replace hF := hF.to (rdb_e (z := z2065) ez2065)
    refine x_getI C (N := 129) (i := k1) (by omega) (xd_L hk1) vc_X3 wx_X3 2 (by decide) wf_X2_139 rfl dX2_lives_110 (a := z2065) ez2065 ?_
    refine x_callVv C (As := [vI z2064, vI z2065]) (rest := []) 69 (xw_at (N := 129) (i := 69) (by decide) rfl) vc_X0 (s_onDay l D cy ad G V1653 J1653 R1653 hI1653 hJ1653 hR1653 z2064 ⟨by omega, by omega⟩ z2065 ⟨by omega, by omega⟩) (l1 := []) (l2 := []) (List.append_nil _).symm (w2 := fun u : Nat → Nat → Int => XW cy ad u J1653 R1653) (fun _ => List.append_nil _) rfl wm_yX0_onDay wn_X0 wl_X2_142 wi_yX0_onDay we_yX0_onDay hd_yX0_onDay rfl ⟨Nat.le_of_ble_eq_true rfl, Nat.le_of_ble_eq_true rfl⟩ (Nat.le_of_ble_eq_true rfl) ⟨Nat.le_of_ble_eq_true rfl, Nat.le_of_ble_eq_true rfl⟩ dX2_lives_113 (fun V2066 h2066 => ?_)
    obtain ⟨hI2066, hBc2066, hFc2066⟩ := h2066
    replace hF := calUX_i hF hFc2066 hBc2066
    have hB2066 := hB1653.tr hBc2066 (fun i k h => (Or.inr (Or.inr (h))))
    refine x_iconst C.1 (n := 0) dX2_lives_116 ?_
    refine x_istore C.1 (lv' := [(7, vI 0), (6, vI z1652), (5, .ref (ad 69)), (4, vI z3), (0, .ref (ad 98)), (1, .ref (ad k1)), (2, .ref (ad 60)), (3, vI x3)]) dX2_lives_117 (by decide) rfl ?_
    obtain ⟨bd2155, hbd2155, hF⟩ := lop4_ex hF
    refine x_loop (I := fun x : Int × (Nat → Nat → Int) × (Nat → Nat → Int) × (Nat → Nat → Nat) => match x with | (z2154, V2155, J2155, R2155) => (0 ≤ z2154 ∧ z2154 ≤ 3) ∧ XI G V2155 ∧ FB (fun i k : Nat => (98 ≤ i ∧ i ≤ 104) ∨ (70 ≤ i ∧ i ≤ 70) ∨ (69 ≤ i ∧ i ≤ 71)) V V2155 ∧ VJ J2155 ∧ XR R2155 ∧ RK R2155 Rr ∧ (∃ nf : Nat, (4 - z2154).toNat < nf ∧ Imp (lop4 nf bd2155 z2154 V2155 J2155 R2155) (f_s_lives k1 x3 V J Rr))) (μ := fun x : Int × (Nat → Nat → Int) × (Nat → Nat → Int) × (Nat → Nat → Nat) => match x with | (z2154, V2155, J2155, R2155) => (4 - z2154).toNat) (wsf := fun x : Int × (Nat → Nat → Int) × (Nat → Nat → Int) × (Nat → Nat → Nat) => match x with | (z2154, V2155, J2155, R2155) => XW cy ad V2155 J2155 R2155) (lvf := fun x : Int × (Nat → Nat → Int) × (Nat → Nat → Int) × (Nat → Nat → Nat) => match x with | (z2154, V2155, J2155, R2155) => [(7, vI z2154), (6, vI z1652), (5, .ref (ad 69)), (4, vI z3), (0, .ref (ad 98)), (1, .ref (ad k1)), (2, .ref (ad 60)), (3, vI x3)]) (fun x hI2155x ih2155 => ?_) (0, V2066, J1653, R1653) ⟨⟨by decide, by decide⟩, hI2066, hB2066, hJ1653, hR1653, hE1653, ⟨_, (by omega), hF⟩⟩ rfl rfl
    obtain ⟨z2154, V2155, J2155, R2155⟩ := x
    obtain ⟨bz2154, hI2155, hB2155, hJ2155, hR2155, hE2155, nf2155, hn2155, hF⟩ := hI2155x
    try dsimp only
    obtain ⟨nf2155, rfl⟩ : ∃ mm, nf2155 = mm + 1 := ⟨nf2155 - 1, (Nat.succ_pred_eq_of_pos (Nat.lt_of_le_of_lt (Nat.zero_le _) hn2155)).symm⟩
    replace hF := hF.to (lop4_s hbd2155)
    refine x_iload C.1 dX2_lives_119 0 rfl ?_
    refine x_aload_n C.1 dX2_lives_121 4 rfl ?_
    obtain ⟨z2177, ez2177, bz2177⟩ := hI2155.rd 98 8 (x := 0) (y := 3) rfl
    replace hF := hF.to (rdb_e (z := z2177) ez2177)
    replace hF := hF.fc bz2177
    refine x_getI C (N := 129) (i := 98) (by decide) rfl vc_X2 wx_X2 8 (by decide) wf_X2_73 rfl dX2_lives_122 (a := z2177) ez2177 ?_
    refine x_icmp_ge C.1 (tgt := 191) dX2_lives_125 (by decide) (by omega) (by omega) (fun hc2186 => ?_) (fun hc2186 => ?_)
    · replace hF := hF.to (if_pos hc2186)
      refine x_aload C.1 dX2_lives_191 2 rfl ?_
      refine x_callVv C (As := []) (rest := []) 69 (xw_at (N := 129) (i := 69) (by decide) rfl) vc_X0 (s_byNobody l D cy ad G V2155 J2155 R2155 hI2155 hJ2155 hR2155 ) (l1 := []) (l2 := []) (List.append_nil _).symm (w2 := fun u : Nat → Nat → Int => XW cy ad u J2155 R2155) (fun _ => List.append_nil _) rfl wm_yX0_byNobody wn_X0 wl_X2_161 wi_yX0_byNobody we_yX0_byNobody hd_yX0_byNobody rfl ⟨Nat.le_of_ble_eq_true rfl, Nat.le_of_ble_eq_true rfl⟩ (Nat.le_of_ble_eq_true rfl) ⟨Nat.le_of_ble_eq_true rfl, Nat.le_of_ble_eq_true rfl⟩ dX2_lives_193 (fun V2187 h2187 => ?_)
      obtain ⟨hI2187, hBc2187, hFc2187⟩ := h2187
      replace hF := calUX_i hF hFc2187 hBc2187
      have hB2187 := hB2155.tr hBc2187 (fun i k h => (Or.inr (Or.inr (h))))
      refine x_aload_n C.1 dX2_lives_196 4 rfl ?_
      refine x_aload C.1 dX2_lives_197 2 rfl ?_
      refine x_aload_n C.1 dX2_lives_199 6 rfl ?_
      obtain ⟨t2188, et2188, ht2188⟩ := XR.law hR2155
      replace hF := hF.to (rdb_e (z := t2188) et2188)
      refine x_getR C (N := 129) (i := 60) (by decide) rfl vc_X1 wx_X1 0 (by decide) wf_X2_164 rfl dX2_lives_200 (a := t2188) et2188 ?_
      refine x_callVv C (As := [.ref (ad 69), .ref (ad t2188)]) (rest := []) 98 (xw_at (N := 129) (i := 98) (by decide) rfl) vc_X2 (s_goDry l D cy ad G V2187 J2155 R2155 hI2187 hJ2155 hR2155 t2188 ht2188) (l1 := []) (l2 := []) (List.append_nil _).symm (w2 := fun u : xS => XW cy ad u.1 u.2.1 u.2.2) (fun _ => List.append_nil _) rfl wm_yX2_goDry wn_X2 wl_X2_168 wi_yX2_goDry we_yX2_goDry hd_yX2_goDry rfl ⟨Nat.le_of_ble_eq_true rfl, Nat.le_of_ble_eq_true rfl⟩ (Nat.le_of_ble_eq_true rfl) ⟨Nat.le_of_ble_eq_true rfl, Nat.le_of_ble_eq_true rfl⟩ dX2_lives_203 (fun u2189 h2189 => ?_)
      obtain ⟨V2189, J2189, R2189⟩ := u2189
      obtain ⟨hS2189, hBc2189, hEc2189, hFc2189⟩ := h2189
      replace hF := calTX_i hF hFc2189 hBc2189
      have hB2189 := hB2187.tr hBc2189 (fun i k h => (h.elim (fun h => (Or.inr (Or.inr (h)))) (fun h => (Or.inl h))))
      have hE2189 : RK R2189 Rr := RK.tr hE2155 hEc2189
      obtain ⟨hI2189, hJ2189, hR2189⟩ := hS2189
      dsimp only at hI2189 hJ2189 hR2189 ⊢
      refine x_iinc C.1 (v := z1652 + 1) (lv' := [(6, vI (z1652 + 1)), (7, vI z2154), (5, .ref (ad 69)), (4, vI z3), (0, .ref (ad 98)), (1, .ref (ad k1)), (2, .ref (ad 60)), (3, vI x3)]) (by omega) dX2_lives_206 1 rfl (by decide) rfl ?_
      refine x_goto C.1 (tgt := 94) dX2_lives_209 (by decide) ?_
      refine x_lv [(6, vI (z1652 + 1)), (5, .ref (ad 69)), (4, vI z3), (0, .ref (ad 98)), (1, .ref (ad k1)), (2, .ref (ad 60)), (3, vI x3)] [0, 2, 3, 4, 5, 6, 7] rfl ?_
      have hmu1653 : (10 - (z1652 + 1)).toNat < (10 - z1652).toNat := (by omega)
      exact ih1653 (z1652 + 1, V2189, J2189, R2189) ⟨⟨by omega, by omega⟩, hI2189, hB2189, hJ2189, hR2189, hE2189, ⟨nf1653, Nat.lt_of_lt_of_le hmu1653 (Nat.le_of_lt_succ hn1653), hF⟩⟩ hmu1653
    · replace hF := hF.to (if_neg hc2186)
      refine x_aload_n C.1 dX2_lives_128 6 rfl ?_
      refine x_getA C (N := 129) (i := 60) (by decide) rfl vc_X1 wx_X1 1 (by decide) wf_X2_146 (a := 66) rfl dX2_lives_129 ?_
      refine x_aload_n C.1 dX2_lives_132 5 rfl ?_
      refine x_getA C (N := 129) (i := k1) (by omega) (xd_L hk1) vc_X3 wx_X3 1 (by decide) wf_X2_83 (a := k1 + 2) rfl dX2_lives_133 ?_
      refine x_aload_n C.1 dX2_lives_136 4 rfl ?_
      refine x_getA C (N := 129) (i := 98) (by decide) rfl vc_X2 wx_X2 6 (by decide) wf_X2_25 (a := 103) rfl dX2_lives_137 ?_
      refine x_iload C.1 dX2_lives_140 0 rfl ?_
      obtain ⟨z2190, ez2190, bz2190⟩ := hI2155.rd 103 z2154.toNat (x := 0) (y := 7) rfl
      replace hF := hF.to (rdb_e (z := z2190) ez2190)
      replace hF := hF.fc bz2190
      refine x_iald C (N := 129) (i := 103) (q := z2154) (by decide) rfl (by omega) (by decide) dX2_lives_142 (a := z2190) ez2190 ?_
      obtain ⟨c2191, ec2191, hc2191⟩ : ∃ cx : Nat, k1 + 11 + 1 * z2190.toNat = cx ∧ isPe cx := ⟨_, rfl, isPe_L hk1 (by omega)⟩
      replace hF := hF.to (rdb_e (z := c2191) ec2191)
      refine x_aldS C (N := 129) (i := k1 + 2) (q := z2190) (t := 5) rfl (by omega) (xd_Lb hk1) (by omega) (by decide) dX2_lives_143 (a := c2191) ec2191 ?_
      obtain ⟨z2192, ez2192, bz2192⟩ := hI2155.rd c2191 2 (x := 0) (y := 3) (rg_E hc2191 2)
      replace hF := hF.to (rdb_e (z := z2192) ez2192)
      replace hF := hF.fc bz2192
      refine x_getI C (N := 129) (i := c2191) hc2191.1 hc2191.2 vc_X4 wx_X4 2 (by decide) wf_X2_150 rfl dX2_lives_144 (a := z2192) ez2192 ?_
      obtain ⟨t2193, et2193, ht2193⟩ := hR2155.rule (k := z2192.toNat) (by omega)
      replace hF := hF.to (rdb_e (z := t2193) et2193)
      refine x_aldR C (N := 129) (i := 66) (q := z2192) (t := 6) rfl (by decide) rfl (by omega) (by decide) dX2_lives_147 (a := t2193) et2193 ?_
      refine x_astore C.1 (lv' := [(8, .ref (ad t2193)), (7, vI z2154), (6, vI z1652), (5, .ref (ad 69)), (4, vI z3), (0, .ref (ad 98)), (1, .ref (ad k1)), (2, .ref (ad 60)), (3, vI x3)]) dX2_lives_148 (by decide) rfl ?_
      refine x_aload C.1 dX2_lives_150 3 rfl ?_
      refine x_aload_n C.1 dX2_lives_152 5 rfl ?_
      refine x_getA C (N := 129) (i := 98) (by decide) rfl vc_X2 wx_X2 6 (by decide) wf_X2_25 (a := 103) rfl dX2_lives_153 ?_
      refine x_iload C.1 dX2_lives_156 1 rfl ?_
      refine x_iald C (N := 129) (i := 103) (q := z2154) (by decide) rfl (by omega) (by decide) dX2_lives_158 (a := z2190) ez2190 ?_
      refine x_aload_n C.1 dX2_lives_159 5 rfl ?_
      refine x_getA C (N := 129) (i := 98) (by decide) rfl vc_X2 wx_X2 7 (by decide) wf_X2_28 (a := 104) rfl dX2_lives_160 ?_
      refine x_iload C.1 dX2_lives_163 1 rfl ?_
      obtain ⟨z2194, ez2194, bz2194⟩ := hI2155.rd 104 z2154.toNat (x := -2147483648) (y := 2147483647) rfl
      replace hF := hF.to (rdb_e (z := z2194) ez2194)
      refine x_iald C (N := 129) (i := 104) (q := z2154) (by decide) rfl (by omega) (by decide) dX2_lives_165 (a := z2194) ez2194 ?_
      refine x_iconst C.1 (n := 0) dX2_lives_166 ?_
      refine x_callVv C (As := [vI z2190, vI z2194, vI 0]) (rest := []) 69 (xw_at (N := 129) (i := 69) (by decide) rfl) vc_X0 (s_by l D cy ad G V2155 J2155 R2155 hI2155 hJ2155 hR2155 z2190 ⟨by omega, by omega⟩ z2194 ⟨by omega, by omega⟩ 0 ⟨by decide, by decide⟩) (l1 := []) (l2 := []) (List.append_nil _).symm (w2 := fun u : Nat → Nat → Int => XW cy ad u J2155 R2155) (fun _ => List.append_nil _) rfl wm_yX0_by wn_X0 wl_X2_153 wi_yX0_by we_yX0_by hd_yX0_by rfl ⟨Nat.le_of_ble_eq_true rfl, Nat.le_of_ble_eq_true rfl⟩ (Nat.le_of_ble_eq_true rfl) ⟨Nat.le_of_ble_eq_true rfl, Nat.le_of_ble_eq_true rfl⟩ dX2_lives_167 (fun V2195 h2195 => ?_)
      obtain ⟨hI2195, hBc2195, hFc2195⟩ := h2195
      replace hF := calUX_i hF hFc2195 hBc2195
      have hB2195 := hB2155.tr hBc2195 (fun i k h => (Or.inr (Or.inr (h))))
      refine x_aload_n C.1 dX2_lives_170 5 rfl ?_
      refine x_aload C.1 dX2_lives_171 3 rfl ?_
      refine x_aload C.1 dX2_lives_173 0 rfl ?_
      refine x_aload_n C.1 dX2_lives_175 5 rfl ?_
      refine x_getA C (N := 129) (i := 98) (by decide) rfl vc_X2 wx_X2 7 (by decide) wf_X2_28 (a := 104) rfl dX2_lives_176 ?_
      refine x_iload C.1 dX2_lives_179 1 rfl ?_
      obtain ⟨z2196, ez2196, bz2196⟩ := hI2195.rd 104 z2154.toNat (x := -2147483648) (y := 2147483647) rfl
      replace hF := hF.to (rdb_e (z := z2196) ez2196)
      refine x_iald C (N := 129) (i := 104) (q := z2154) (by decide) rfl (by omega) (by decide) dX2_lives_181 (a := z2196) ez2196 ?_
      refine x_callVv C (As := [.ref (ad 69), .ref (ad t2193), vI z2196]) (rest := []) 98 (xw_at (N := 129) (i := 98) (by decide) rfl) vc_X2 (s_comeBy l D cy ad G V2195 J2155 R2155 hI2195 hJ2155 hR2155 t2193 ht2193 z2196 ⟨by omega, by omega⟩) (l1 := []) (l2 := []) (List.append_nil _).symm (w2 := fun u : xS => XW cy ad u.1 u.2.1 u.2.2) (fun _ => List.append_nil _) rfl wm_yX2_comeBy wn_X2 wl_X2_157 wi_yX2_comeBy we_yX2_comeBy hd_yX2_comeBy rfl ⟨Nat.le_of_ble_eq_true rfl, Nat.le_of_ble_eq_true rfl⟩ (Nat.le_of_ble_eq_true rfl) ⟨Nat.le_of_ble_eq_true rfl, Nat.le_of_ble_eq_true rfl⟩ dX2_lives_182 (fun u2197 h2197 => ?_)
      obtain ⟨V2197, J2197, R2197⟩ := u2197
      obtain ⟨hS2197, hBc2197, hEc2197, hFc2197⟩ := h2197
      replace hF := calTX_i hF hFc2197 hBc2197
      have hB2197 := hB2195.tr hBc2197 (fun i k h => (h.elim (fun h => (Or.inl h)) (fun h => (Or.inr (Or.inr (h))))))
      have hE2197 : RK R2197 Rr := RK.tr hE2155 hEc2197
      obtain ⟨hI2197, hJ2197, hR2197⟩ := hS2197
      dsimp only at hI2197 hJ2197 hR2197 ⊢
      refine x_iinc C.1 (v := z2154 + 1) (lv' := [(7, vI (z2154 + 1)), (8, .ref (ad t2193)), (6, vI z1652), (5, .ref (ad 69)), (4, vI z3), (0, .ref (ad 98)), (1, .ref (ad k1)), (2, .ref (ad 60)), (3, vI x3)]) (by omega) dX2_lives_185 1 rfl (by decide) rfl ?_
      refine x_goto C.1 (tgt := 119) dX2_lives_188 (by decide) ?_
      refine x_lv [(7, vI (z2154 + 1)), (6, vI z1652), (5, .ref (ad 69)), (4, vI z3), (0, .ref (ad 98)), (1, .ref (ad k1)), (2, .ref (ad 60)), (3, vI x3)] [0, 2, 3, 4, 5, 6, 7, 8] rfl ?_
      have hmu2155 : (4 - (z2154 + 1)).toNat < (4 - z2154).toNat := (by omega)
      exact ih2155 (z2154 + 1, V2197, J2197, R2197) ⟨⟨by omega, by omega⟩, hI2197, hB2197, hJ2197, hR2197, hE2197, ⟨nf2155, Nat.lt_of_lt_of_le hmu2155 (Nat.le_of_lt_succ hn2155), hF⟩⟩ hmu2155
