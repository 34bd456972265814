theorem hd_yX11_isWithin : yX11_isWithin.cls ≠ "java/lang/invoke/MethodHandle" ∧ yX11_isWithin.cls ≠ "java/lang/invoke/VarHandle" ∧ (parseMethodDescriptor yX11_isWithin.desc).map (fun d => d.parameters.length) = some 3 := by decide +kernel
theorem dX11_areTold_0 : decode cX11_areTold 0 = .ok (.iload_n 1, 1) := by decide +kernel
theorem dX11_areTold_1 : decode cX11_areTold 1 = .ok (.iconst 1, 1) := by decide +kernel
theorem dX11_areTold_2 : decode cX11_areTold 2 = .ok (.iconst 3, 1) := by decide +kernel
theorem dX11_areTold_3 : decode cX11_areTold 3 = .ok (.invokestatic 74, 3) := by decide +kernel
theorem dX11_areTold_6 : decode cX11_areTold 6 = .ok (.ifCond .eq 18, 3) := by decide +kernel
theorem dX11_areTold_9 : decode cX11_areTold 9 = .ok (.iload_n 1, 1) := by decide +kernel
theorem dX11_areTold_10 : decode cX11_areTold 10 = .ok (.aload_n 0, 1) := by decide +kernel
theorem dX11_areTold_11 : decode cX11_areTold 11 = .ok (.getfield 10, 3) := by decide +kernel
theorem dX11_areTold_14 : decode cX11_areTold 14 = .ok (.getfield 358, 3) := by decide +kernel
theorem dX11_areTold_17 : decode cX11_areTold 17 = .ok (.if_icmp .gt 7, 3) := by decide +kernel
theorem dX11_areTold_20 : decode cX11_areTold 20 = .ok (.iconst 1, 1) := by decide +kernel
theorem dX11_areTold_21 : decode cX11_areTold 21 = .ok (.goto 4, 3) := by decide +kernel
theorem dX11_areTold_24 : decode cX11_areTold 24 = .ok (.iconst 0, 1) := by decide +kernel
theorem dX11_areTold_25 : decode cX11_areTold 25 = .ok (.ireturn, 1) := by decide +kernel
set_option maxRecDepth 100000 in
def f_s_areTold (x1 : Int) (V : Nat → Nat → Int) (J : Nat → Nat → Int) (Rr : Nat → Nat → Nat) : (Int) → Prop :=
  calR (f_s_isWithin x1 1 3) fun z1 => fct (0 ≤ z1 ∧ z1 ≤ 1) <| (if z1 = 0 then rtn 0 else rdb (V 1 2) fun z4 => (if z4 < x1 then rtn 0 else rtn 1))
set_option maxHeartbeats 8000000 in
set_option maxRecDepth 100000 in
theorem s_areTold (l : Launch) (D : va_G) (cy : Nat → ClassId) (ad : Nat → Nat) (G : Nat → Nat → Int) (V J : Nat → Nat → Int) (Rr : Nat → Nat → Nat) (hI : XI G V) (hJ : VJ J) (hR : XR Rr) (x1 : Int) (bx1 : -2147483648 ≤ x1 ∧ x1 ≤ 2147483647) : xMi l D (xTY cy) yX11_areTold cX11_areTold 2 (some .boolean) 1 22 0 0 [.ref (ad 0), vI x1] (XW cy ad V J Rr) (fun _ : Unit => XW cy ad V J Rr) (fun a (u : Unit) => Sp a ((1 ≤ x1 ∧ x1 ≤ 3)) ∧ (f_s_areTold x1 V J Rr) a) := by
  refine xMi.mk (lv0 := [(0, .ref (ad 0)), (1, vI x1)]) (by decide) rfl (Nat.le_of_ble_eq_true rfl) (fun p e s m below meth c A C hr hnm hAe => ?_)
  have C : xC2 p s m _ meth c D A s.heap 2 cX11_areTold RX11 (xTY cy) := C
  have hF := Imp.of_eq (f_s_areTold.eq_def x1 V J Rr)
  refine x_iload_n C.1 dX11_areTold_0 1 rfl ?_
  refine x_iconst C.1 (n := 1) dX11_areTold_1 ?_
  refine x_iconst C.1 (n := 3) dX11_areTold_2 ?_
  refine x_callSi C (As := [vI x1, vI 1, vI 3]) (rest := []) (s_isWithin l D cy x1 ⟨by omega, by omega⟩ 1 ⟨by decide, by decide⟩ 3 ⟨by decide, by decide⟩) (l1 := []) (l2 := _) rfl (w2 := fun _ => _) (fun _ => rfl) rfl wm_yX11_isWithin wn_X11 wl_X11_74 wi_yX11_isWithin hd_yX11_isWithin rfl ⟨Nat.le_of_ble_eq_true rfl, Nat.le_of_ble_eq_true rfl⟩ (Nat.le_of_ble_eq_true rfl) ⟨Nat.le_of_ble_eq_true rfl, Nat.le_of_ble_eq_true rfl⟩ dX11_areTold_3 (fun z1 u1 bz1 h1 => ?_)
  obtain ⟨bq1, hx1_0, hFc1⟩ := h1
  replace hF := calR_i hF hFc1
  replace hF := hF.fc bq1
  refine x_if_eq C.1 (tgt := 24) dX11_areTold_6 (by decide) (by omega) (fun hc2 => ?_) (fun hc2 => ?_)
  · replace hF := hF.to (if_pos hc2)
    refine x_iconst C.1 (n := 0) dX11_areTold_24 ?_
    exact x_zret (S := Unit) (post := (fun a (u : Unit) => Sp a ((1 ≤ x1 ∧ x1 ≤ 3)) ∧ (f_s_areTold x1 V J Rr) a)) (w1 := (fun _ : Unit => XW cy ad V J Rr)) (a := 0) C hr rfl dX11_areTold_25 (by decide) () rfl ⟨Or.inl rfl, hF _ rfl⟩
  · replace hF := hF.to (if_neg hc2)
    have hon3 := Sq.on hx1_0 (by omega)
    refine x_iload_n C.1 dX11_areTold_9 1 rfl ?_
    refine x_aload_n C.1 dX11_areTold_10 0 rfl ?_
    refine x_getA C (N := 129) (i := 0) (by decide) rfl vc_X11 wx_X11 0 (by decide) wf_X11_10 (a := 1) rfl dX11_areTold_11 ?_
    obtain ⟨z4, ez4, bz4⟩ := hI.rd 1 2 (x := -2147483648) (y := 2147483647) (rg_L (Or.inl rfl) _)
    replace hF := hF.to (rdb_e (z := z4) ez4)
    refine x_getI C (N := 129) (i := 1) (by omega) (xd_L (Or.inl rfl)) vc_X3 wx_X3 2 (by decide) wf_X11_358 rfl dX11_areTold_14 (a := z4) ez4 ?_
    refine x_icmp_gt C.1 (tgt := 24) dX11_areTold_17 (by decide) (by omega) (by omega) (fun hc5 => ?_) (fun hc5 => ?_)
    · replace hF := hF.to (if_pos hc5)
      refine x_iconst C.1 (n := 0) dX11_areTold_24 ?_
      exact x_zret (S := Unit) (post := (fun a (u : Unit) => Sp a ((1 ≤ x1 ∧ x1 ≤ 3)) ∧ (f_s_areTold x1 V J Rr) a)) (w1 := (fun _ : Unit => XW cy ad V J Rr)) (a := 0) C hr rfl dX11_areTold_25 (by decide) () rfl ⟨Or.inl rfl, hF _ rfl⟩
    · replace hF := hF.to (if_neg hc5)
      refine x_iconst C.1 (n := 1) dX11_areTold_20 ?_
      refine x_goto C.1 (tgt := 25) dX11_areTold_21 (by decide) ?_
      exact x_zret (S := Unit) (post := (fun a (u : Unit) => Sp a ((1 ≤ x1 ∧ x1 ≤ 3)) ∧ (f_s_areTold x1 V J Rr) a)) (w1 := (fun _ : Unit => XW cy ad V J Rr)) (a := 1) C hr rfl dX11_areTold_25 (by decide) () rfl ⟨Or.inr ⟨rfl, by omega⟩, hF _ rfl⟩
theorem hd_yX11_areTold : yX11_areTold.cls ≠ "java/lang/invoke/MethodHandle" ∧ yX11_areTold.cls ≠ "java/lang/invoke/VarHandle" ∧ (parseMethodDescriptor yX11_areTold.desc).map (fun d => d.parameters.length) = some 1 := by decide +kernel
theorem dX11_canReckon_0 : decode cX11_canReckon 0 = .ok (.aload_n 0, 1) := by decide +kernel
theorem dX11_canReckon_1 : decode cX11_canReckon 1 = .ok (.getfield 10, 3) := by decide +kernel
theorem dX11_canReckon_4 : decode cX11_canReckon 4 = .ok (.iload_n 1, 1) := by decide +kernel
theorem dX11_canReckon_5 : decode cX11_canReckon 5 = .ok (.invokevirtual 103, 3) := by decide +kernel
theorem dX11_canReckon_8 : decode cX11_canReckon 8 = .ok (.ifCond .eq 35, 3) := by decide +kernel
theorem dX11_canReckon_11 : decode cX11_canReckon 11 = .ok (.iload_n 2, 1) := by decide +kernel
theorem dX11_canReckon_12 : decode cX11_canReckon 12 = .ok (.iconst 1, 1) := by decide +kernel
theorem dX11_canReckon_13 : decode cX11_canReckon 13 = .ok (.bipush 9, 2) := by decide +kernel
theorem dX11_canReckon_15 : decode cX11_canReckon 15 = .ok (.invokestatic 74, 3) := by decide +kernel
theorem dX11_canReckon_18 : decode cX11_canReckon 18 = .ok (.ifCond .eq 25, 3) := by decide +kernel
theorem dX11_canReckon_21 : decode cX11_canReckon 21 = .ok (.aload_n 0, 1) := by decide +kernel
theorem dX11_canReckon_22 : decode cX11_canReckon 22 = .ok (.iload_n 3, 1) := by decide +kernel
theorem dX11_canReckon_23 : decode cX11_canReckon 23 = .ok (.invokevirtual 253, 3) := by decide +kernel
theorem dX11_canReckon_26 : decode cX11_canReckon 26 = .ok (.ifCond .eq 17, 3) := by decide +kernel
theorem dX11_canReckon_29 : decode cX11_canReckon 29 = .ok (.iload_n 2, 1) := by decide +kernel
theorem dX11_canReckon_30 : decode cX11_canReckon 30 = .ok (.iload_n 3, 1) := by decide +kernel
theorem dX11_canReckon_31 : decode cX11_canReckon 31 = .ok (.iconst 1, 1) := by decide +kernel
theorem dX11_canReckon_32 : decode cX11_canReckon 32 = .ok (.iadd, 1) := by decide +kernel
theorem dX11_canReckon_33 : decode cX11_canReckon 33 = .ok (.imul, 1) := by decide +kernel
theorem dX11_canReckon_34 : decode cX11_canReckon 34 = .ok (.bipush 18, 2) := by decide +kernel
theorem dX11_canReckon_36 : decode cX11_canReckon 36 = .ok (.if_icmp .gt 7, 3) := by decide +kernel
theorem dX11_canReckon_39 : decode cX11_canReckon 39 = .ok (.iconst 1, 1) := by decide +kernel
theorem dX11_canReckon_40 : decode cX11_canReckon 40 = .ok (.goto 4, 3) := by decide +kernel
theorem dX11_canReckon_43 : decode cX11_canReckon 43 = .ok (.iconst 0, 1) := by decide +kernel
theorem dX11_canReckon_44 : decode cX11_canReckon 44 = .ok (.ireturn, 1) := by decide +kernel
set_option maxRecDepth 100000 in
def f_s_canReckon (x1 : Int) (x2 : Int) (x3 : Int) (V : Nat → Nat → Int) (J : Nat → Nat → Int) (Rr : Nat → Nat → Nat) : (Int) → Prop :=
  calR (f_s_isAlive 1 x1 V J Rr) fun z1 => fct (0 ≤ z1 ∧ z1 ≤ 1) <| (if z1 = 0 then rtn 0 else calR (f_s_isWithin x2 1 9) fun z4 => fct (0 ≤ z4 ∧ z4 ≤ 1) <| (if z4 = 0 then rtn 0 else calR (f_s_areTold x3 V J Rr) fun z7 => fct (0 ≤ z7 ∧ z7 ≤ 1) <| (if z7 = 0 then rtn 0 else rdb (x2 * (x3 + 1)) fun z10 => fct (0 ≤ z10 ∧ z10 ≤ 36) <| (if 18 < z10 then rtn 0 else rtn 1))))
set_option maxHeartbeats 8000000 in
set_option maxRecDepth 100000 in
theorem s_canReckon (l : Launch) (D : va_G) (cy : Nat → ClassId) (ad : Nat → Nat) (G : Nat → Nat → Int) (V J : Nat → Nat → Int) (Rr : Nat → Nat → Nat) (hI : XI G V) (hJ : VJ J) (hR : XR Rr) (x1 : Int) (bx1 : -2147483648 ≤ x1 ∧ x1 ≤ 2147483647) (x2 : Int) (bx2 : -2147483648 ≤ x2 ∧ x2 ≤ 2147483647) (x3 : Int) (bx3 : -2147483648 ≤ x3 ∧ x3 ≤ 2147483647) : xMi l D (xTY cy) yX11_canReckon cX11_canReckon 4 (some .boolean) 3 63 0 0 [.ref (ad 0), vI x1, vI x2, vI x3] (XW cy ad V J Rr) (fun _ : Unit => XW cy ad V J Rr) (fun a (u : Unit) => Sp a ((0 ≤ x1 ∧ x1 ≤ 3) ∧ (1 ≤ x2 ∧ x2 ≤ 9) ∧ (1 ≤ x3 ∧ x3 ≤ 3)) ∧ (f_s_canReckon x1 x2 x3 V J Rr) a) := by
  refine xMi.mk (lv0 := [(0, .ref (ad 0)), (1, vI x1), (2, vI x2), (3, vI x3)]) (by decide) rfl (Nat.le_of_ble_eq_true rfl) (fun p e s m below meth c A C hr hnm hAe => ?_)
  have C : xC2 p s m _ meth c D A s.heap 4 cX11_canReckon RX11 (xTY cy) := C
  have hF := Imp.of_eq (f_s_canReckon.eq_def x1 x2 x3 V J Rr)
  refine x_aload_n C.1 dX11_canReckon_0 0 rfl ?_
  refine x_getA C (N := 129) (i := 0) (by decide) rfl vc_X11 wx_X11 0 (by decide) wf_X11_10 (a := 1) rfl dX11_canReckon_1 ?_
  refine x_iload_n C.1 dX11_canReckon_4 1 rfl ?_
  refine x_callVi C (As := [vI x1]) (rest := []) 1 (xw_at (N := 129) (i := 1) (by omega) (xd_L (Or.inl rfl))) vc_X3 (s_isAlive l D cy ad G V J Rr hI hJ hR 1 (Or.inl rfl) x1 ⟨by omega, by omega⟩) (l1 := []) (l2 := []) (List.append_nil _).symm (w2 := fun _ => XW cy ad V J Rr) (fun _ => List.append_nil _) rfl wm_yX3_isAlive wn_X3 wl_X11_103 wi_yX3_isAlive we_yX3_isAlive hd_yX3_isAlive rfl ⟨Nat.le_of_ble_eq_true rfl, Nat.le_of_ble_eq_true rfl⟩ (Nat.le_of_ble_eq_true rfl) ⟨Nat.le_of_ble_eq_true rfl, Nat.le_of_ble_eq_true rfl⟩ dX11_canReckon_5 (fun z1 u1 bz1 h1 => ?_)
  obtain ⟨hon1, hFc1⟩ := h1
  replace hF := calR_i hF hFc1
  replace hF := hF.fc hon1.r
  have bq1 := Sp.r hon1
  refine x_if_eq C.1 (tgt := 43) dX11_canReckon_8 (by decide) (by omega) (fun hc2 => ?_) (fun hc2 => ?_)
  · replace hF := hF.to (if_pos hc2)
    refine x_iconst C.1 (n := 0) dX11_canReckon_43 ?_
    exact x_zret (S := Unit) (post := (fun a (u : Unit) => Sp a ((0 ≤ x1 ∧ x1 ≤ 3) ∧ (1 ≤ x2 ∧ x2 ≤ 9) ∧ (1 ≤ x3 ∧ x3 ≤ 3)) ∧ (f_s_canReckon x1 x2 x3 V J Rr) a)) (w1 := (fun _ : Unit => XW cy ad V J Rr)) (a := 0) C hr rfl dX11_canReckon_44 (by decide) () rfl ⟨Or.inl rfl, hF _ rfl⟩
  · replace hF := hF.to (if_neg hc2)
    have hon3 := Sp.on hon1 (by omega)
    refine x_iload_n C.1 dX11_canReckon_11 2 rfl ?_
    refine x_iconst C.1 (n := 1) dX11_canReckon_12 ?_
    refine x_bipush C.1 (n := 9) dX11_canReckon_13 ?_
    refine x_callSi C (As := [vI x2, vI 1, vI 9]) (rest := []) (s_isWithin l D cy x2 ⟨by omega, by omega⟩ 1 ⟨by decide, by decide⟩ 9 ⟨by decide, by decide⟩) (l1 := []) (l2 := _) rfl (w2 := fun _ => _) (fun _ => rfl) rfl wm_yX11_isWithin wn_X11 wl_X11_74 wi_yX11_isWithin hd_yX11_isWithin rfl ⟨Nat.le_of_ble_eq_true rfl, Nat.le_of_ble_eq_true rfl⟩ (Nat.le_of_ble_eq_true rfl) ⟨Nat.le_of_ble_eq_true rfl, Nat.le_of_ble_eq_true rfl⟩ dX11_canReckon_15 (fun z4 u4 bz4 h4 => ?_)
    obtain ⟨bq4, hx4_0, hFc4⟩ := h4
    replace hF := calR_i hF hFc4
    replace hF := hF.fc bq4
    refine x_if_eq C.1 (tgt := 43) dX11_canReckon_18 (by decide) (by omega) (fun hc5 => ?_) (fun hc5 => ?_)
    · replace hF := hF.to (if_pos hc5)
      refine x_iconst C.1 (n := 0) dX11_canReckon_43 ?_
      exact x_zret (S := Unit) (post := (fun a (u : Unit) => Sp a ((0 ≤ x1 ∧ x1 ≤ 3) ∧ (1 ≤ x2 ∧ x2 ≤ 9) ∧ (1 ≤ x3 ∧ x3 ≤ 3)) ∧ (f_s_canReckon x1 x2 x3 V J Rr) a)) (w1 := (fun _ : Unit => XW cy ad V J Rr)) (a := 0) C hr rfl dX11_canReckon_44 (by decide) () rfl ⟨Or.inl rfl, hF _ rfl⟩
    · replace hF := hF.to (if_neg hc5)
      have hon6 := Sq.on hx4_0 (by omega)
      refine x_aload_n C.1 dX11_canReckon_21 0 rfl ?_
      refine x_iload_n C.1 dX11_canReckon_22 3 rfl ?_
      refine x_callVi C (As := [vI x3]) (rest := []) 0 (xw_at (N := 129) (i := 0) (by decide) rfl) vc_X11 (s_areTold l D cy ad G V J Rr hI hJ hR x3 ⟨by omega, by omega⟩) (l1 := []) (l2 := []) (List.append_nil _).symm (w2 := fun _ => XW cy ad V J Rr) (fun _ => List.append_nil _) rfl wm_yX11_areTold wn_X11 wl_X11_253 wi_yX11_areTold we_yX11_areTold hd_yX11_areTold rfl ⟨Nat.le_of_ble_eq_true rfl, Nat.le_of_ble_eq_true rfl⟩ (Nat.le_of_ble_eq_true rfl) ⟨Nat.le_of_ble_eq_true rfl, Nat.le_of_ble_eq_true rfl⟩ dX11_canReckon_23 (fun z7 u7 bz7 h7 => ?_)
      obtain ⟨hon7, hFc7⟩ := h7
      replace hF := calR_i hF hFc7
      replace hF := hF.fc hon7.r
      have bq7 := Sp.r hon7
      refine x_if_eq C.1 (tgt := 43) dX11_canReckon_26 (by decide) (by omega) (fun hc8 => ?_) (fun hc8 => ?_)
      · replace hF := hF.to (if_pos hc8)
        refine x_iconst C.1 (n := 0) dX11_canReckon_43 ?_
        exact x_zret (S := Unit) (post := (fun a (u : Unit) => Sp a ((0 ≤ x1 ∧ x1 ≤ 3) ∧ (1 ≤ x2 ∧ x2 ≤ 9) ∧ (1 ≤ x3 ∧ x3 ≤ 3)) ∧ (f_s_canReckon x1 x2 x3 V J Rr) a)) (w1 := (fun _ : Unit => XW cy ad V J Rr)) (a := 0) C hr rfl dX11_canReckon_44 (by decide) () rfl ⟨Or.inl rfl, hF _ rfl⟩
      · replace hF := hF.to (if_neg hc8)
        have hon9 := Sp.on hon7 (by omega)
        refine x_iload_n C.1 dX11_canReckon_29 2 rfl ?_
        refine x_iload_n C.1 dX11_canReckon_30 3 rfl ?_
        refine x_iconst C.1 (n := 1) dX11_canReckon_31 ?_
        refine x_iadd C.1 (v := x3 + 1) (by omega) dX11_canReckon_32 ?_
        obtain ⟨z10, hz10, bz10⟩ := mulB (x := x2) (y := x3 + 1) (A := 9) (B := 4) (by omega) (by omega)
        replace hF := hF.to (rdb_e (z := z10) hz10)
        replace hF := hF.fc bz10
        refine x_imul C.1 (v := z10) hz10 dX11_canReckon_33 ?_
        refine x_bipush C.1 (n := 18) dX11_canReckon_34 ?_
        refine x_icmp_gt C.1 (tgt := 43) dX11_canReckon_36 (by decide) (by omega) (by decide) (fun hc11 => ?_) (fun hc11 => ?_)
        · replace hF := hF.to (if_pos hc11)
          refine x_iconst C.1 (n := 0) dX11_canReckon_43 ?_
          exact x_zret (S := Unit) (post := (fun a (u : Unit) => Sp a ((0 ≤ x1 ∧ x1 ≤ 3) ∧ (1 ≤ x2 ∧ x2 ≤ 9) ∧ (1 ≤ x3 ∧ x3 ≤ 3)) ∧ (f_s_canReckon x1 x2 x3 V J Rr) a)) (w1 := (fun _ : Unit => XW cy ad V J Rr)) (a := 0) C hr rfl dX11_canReckon_44 (by decide) () rfl ⟨Or.inl rfl, hF _ rfl⟩
        · replace hF := hF.to (if_neg hc11)
          refine x_iconst C.1 (n := 1) dX11_canReckon_39 ?_
          refine x_goto C.1 (tgt := 44) dX11_canReckon_40 (by decide) ?_
          exact x_zret (S := Unit) (post := (fun a (u : Unit) => Sp a ((0 ≤ x1 ∧ x1 ≤ 3) ∧ (1 ≤ x2 ∧ x2 ≤ 9) ∧ (1 ≤ x3 ∧ x3 ≤ 3)) ∧ (f_s_canReckon x1 x2 x3 V J Rr) a)) (w1 := (fun _ : Unit => XW cy ad V J Rr)) (a := 1) C hr rfl dX11_canReckon_44 (by decide) () rfl ⟨Or.inr ⟨rfl, by omega⟩, hF _ rfl⟩
theorem dX11_canTry_0 : decode cX11_canTry 0 = .ok (.iload_n 1, 1) := by decide +kernel
theorem dX11_canTry_1 : decode cX11_canTry 1 = .ok (.iconst 0, 1) := by decide +kernel
theorem dX11_canTry_2 : decode cX11_canTry 2 = .ok (.iconst 3, 1) := by decide +kernel
theorem dX11_canTry_3 : decode cX11_canTry 3 = .ok (.invokestatic 74, 3) := by decide +kernel
theorem dX11_canTry_6 : decode cX11_canTry 6 = .ok (.ifCond .ne 31, 3) := by decide +kernel
theorem dX11_canTry_9 : decode cX11_canTry 9 = .ok (.aload_n 0, 1) := by decide +kernel
theorem dX11_canTry_10 : decode cX11_canTry 10 = .ok (.getfield 10, 3) := by decide +kernel
theorem dX11_canTry_13 : decode cX11_canTry 13 = .ok (.iload_n 1, 1) := by decide +kernel
theorem dX11_canTry_14 : decode cX11_canTry 14 = .ok (.bipush 10, 2) := by decide +kernel
theorem dX11_canTry_16 : decode cX11_canTry 16 = .ok (.isub, 1) := by decide +kernel
theorem dX11_canTry_17 : decode cX11_canTry 17 = .ok (.invokevirtual 91, 3) := by decide +kernel
theorem dX11_canTry_20 : decode cX11_canTry 20 = .ok (.ifCond .ne 17, 3) := by decide +kernel
theorem dX11_canTry_23 : decode cX11_canTry 23 = .ok (.aload_n 0, 1) := by decide +kernel
theorem dX11_canTry_24 : decode cX11_canTry 24 = .ok (.getfield 10, 3) := by decide +kernel
theorem dX11_canTry_27 : decode cX11_canTry 27 = .ok (.iload_n 1, 1) := by decide +kernel
theorem dX11_canTry_28 : decode cX11_canTry 28 = .ok (.bipush 20, 2) := by decide +kernel
theorem dX11_canTry_30 : decode cX11_canTry 30 = .ok (.isub, 1) := by decide +kernel
theorem dX11_canTry_31 : decode cX11_canTry 31 = .ok (.invokevirtual 168, 3) := by decide +kernel
theorem dX11_canTry_34 : decode cX11_canTry 34 = .ok (.ifCond .eq 7, 3) := by decide +kernel
theorem dX11_canTry_37 : decode cX11_canTry 37 = .ok (.iconst 1, 1) := by decide +kernel
theorem dX11_canTry_38 : decode cX11_canTry 38 = .ok (.goto 4, 3) := by decide +kernel
theorem dX11_canTry_41 : decode cX11_canTry 41 = .ok (.iconst 0, 1) := by decide +kernel
theorem dX11_canTry_42 : decode cX11_canTry 42 = .ok (.ireturn, 1) := by decide +kernel
set_option maxRecDepth 100000 in
def f_s_canTry (x1 : Int) (V : Nat → Nat → Int) (J : Nat → Nat → Int) (Rr : Nat → Nat → Nat) : (Int) → Prop :=
  calR (f_s_isWithin x1 0 3) fun z1 => fct (0 ≤ z1 ∧ z1 ≤ 1) <| (if ¬ z1 = 0 then rtn 1 else rdb (wr (x1 - 10)) fun z4 => calR (f_s_isPlant 1 z4 V J Rr) fun z5 => fct (0 ≤ z5 ∧ z5 ≤ 1) <| (if ¬ z5 = 0 then rtn 1 else rdb (wr (x1 - 20)) fun z8 => calR (f_s_isPerson 1 z8 V J Rr) fun z9 => fct (0 ≤ z9 ∧ z9 ≤ 1) <| (if z9 = 0 then rtn 0 else rtn 1)))
set_option maxHeartbeats 8000000 in
set_option maxRecDepth 100000 in
theorem s_canTry (l : Launch) (D : va_G) (cy : Nat → ClassId) (ad : Nat → Nat) (G : Nat → Nat → Int) (V J : Nat → Nat → Int) (Rr : Nat → Nat → Nat) (hI : XI G V) (hJ : VJ J) (hR : XR Rr) (x1 : Int) (bx1 : -2147483648 ≤ x1 ∧ x1 ≤ 2147483647) : xMi l D (xTY cy) yX11_canTry cX11_canTry 2 (some .boolean) 2 42 0 0 [.ref (ad 0), vI x1] (XW cy ad V J Rr) (fun _ : Unit => XW cy ad V J Rr) (fun a (u : Unit) => (0 ≤ a ∧ a ≤ 1) ∧ (Sp a ((0 ≤ x1 ∧ x1 ≤ 3) ∨ (10 ≤ x1 ∧ x1 ≤ 13) ∨ (20 ≤ x1 ∧ x1 ≤ 27))) ∧ (f_s_canTry x1 V J Rr) a) := by
  refine xMi.mk (lv0 := [(0, .ref (ad 0)), (1, vI x1)]) (by decide) rfl (Nat.le_of_ble_eq_true rfl) (fun p e s m below meth c A C hr hnm hAe => ?_)
  have C : xC2 p s m _ meth c D A s.heap 2 cX11_canTry RX11 (xTY cy) := C
  have hF := Imp.of_eq (f_s_canTry.eq_def x1 V J Rr)
  refine x_iload_n C.1 dX11_canTry_0 1 rfl ?_
  refine x_iconst C.1 (n := 0) dX11_canTry_1 ?_
  refine x_iconst C.1 (n := 3) dX11_canTry_2 ?_
  refine x_callSi C (As := [vI x1, vI 0, vI 3]) (rest := []) (s_isWithin l D cy x1 ⟨by omega, by omega⟩ 0 ⟨by decide, by decide⟩ 3 ⟨by decide, by decide⟩) (l1 := []) (l2 := _) rfl (w2 := fun _ => _) (fun _ => rfl) rfl wm_yX11_isWithin wn_X11 wl_X11_74 wi_yX11_isWithin hd_yX11_isWithin rfl ⟨Nat.le_of_ble_eq_true rfl, Nat.le_of_ble_eq_true rfl⟩ (Nat.le_of_ble_eq_true rfl) ⟨Nat.le_of_ble_eq_true rfl, Nat.le_of_ble_eq_true rfl⟩ dX11_canTry_3 (fun z1 u1 bz1 h1 => ?_)
  obtain ⟨bq1, hx1_0, hFc1⟩ := h1
  replace hF := calR_i hF hFc1
  replace hF := hF.fc bq1
  refine x_if_ne C.1 (tgt := 37) dX11_canTry_6 (by decide) (by omega) (fun hc2 => ?_) (fun hc2 => ?_)
  · replace hF := hF.to (if_pos hc2)
    have hon3 := Sq.on hx1_0 (by omega)
    refine x_iconst C.1 (n := 1) dX11_canTry_37 ?_
    refine x_goto C.1 (tgt := 42) dX11_canTry_38 (by decide) ?_
    exact x_zret (S := Unit) (post := (fun a (u : Unit) => (0 ≤ a ∧ a ≤ 1) ∧ (Sp a ((0 ≤ x1 ∧ x1 ≤ 3) ∨ (10 ≤ x1 ∧ x1 ≤ 13) ∨ (20 ≤ x1 ∧ x1 ≤ 27))) ∧ (f_s_canTry x1 V J Rr) a)) (w1 := (fun _ : Unit => XW cy ad V J Rr)) (a := 1) C hr rfl dX11_canTry_42 (by decide) () rfl ⟨⟨by decide, by decide⟩, (Or.inr ⟨rfl, by omega⟩), hF _ rfl⟩
  · replace hF := hF.to (if_neg (fun hh => hh hc2))
    refine x_aload_n C.1 dX11_canTry_9 0 rfl ?_
    refine x_getA C (N := 129) (i := 0) (by decide) rfl vc_X11 wx_X11 0 (by decide) wf_X11_10 (a := 1) rfl dX11_canTry_10 ?_
    refine x_iload_n C.1 dX11_canTry_13 1 rfl ?_
    refine x_bipush C.1 (n := 10) dX11_canTry_14 ?_
    refine x_isub C.1 (v := x1 - 10) (by omega) dX11_canTry_16 ?_
    refine x_wrapg ?_
    intro z4 bz4 ew4
    have hw4 := wr_cases (z := x1 - 10) (by omega)
    replace hF := hF.to (rdb_e (z := z4) ew4.symm)
    refine x_callVi C (As := [vI z4]) (rest := []) 1 (xw_at (N := 129) (i := 1) (by omega) (xd_L (Or.inl rfl))) vc_X3 (s_isPlant l D cy ad G V J Rr hI hJ hR 1 (Or.inl rfl) z4 ⟨by omega, by omega⟩) (l1 := []) (l2 := []) (List.append_nil _).symm (w2 := fun _ => XW cy ad V J Rr) (fun _ => List.append_nil _) rfl wm_yX3_isPlant wn_X3 wl_X11_91 wi_yX3_isPlant we_yX3_isPlant hd_yX3_isPlant rfl ⟨Nat.le_of_ble_eq_true rfl, Nat.le_of_ble_eq_true rfl⟩ (Nat.le_of_ble_eq_true rfl) ⟨Nat.le_of_ble_eq_true rfl, Nat.le_of_ble_eq_true rfl⟩ dX11_canTry_17 (fun z5 u5 bz5 h5 => ?_)
    obtain ⟨hon5, hFc5⟩ := h5
    replace hF := calR_i hF hFc5
    replace hF := hF.fc hon5.r
    have bq5 := Sp.r hon5
    refine x_if_ne C.1 (tgt := 37) dX11_canTry_20 (by decide) (by omega) (fun hc6 => ?_) (fun hc6 => ?_)
    · replace hF := hF.to (if_pos hc6)
      have hon7 := Sp.on hon5 (by omega)
      refine x_iconst C.1 (n := 1) dX11_canTry_37 ?_
      refine x_goto C.1 (tgt := 42) dX11_canTry_38 (by decide) ?_
      exact x_zret (S := Unit) (post := (fun a (u : Unit) => (0 ≤ a ∧ a ≤ 1) ∧ (Sp a ((0 ≤ x1 ∧ x1 ≤ 3) ∨ (10 ≤ x1 ∧ x1 ≤ 13) ∨ (20 ≤ x1 ∧ x1 ≤ 27))) ∧ (f_s_canTry x1 V J Rr) a)) (w1 := (fun _ : Unit => XW cy ad V J Rr)) (a := 1) C hr rfl dX11_canTry_42 (by decide) () rfl ⟨⟨by decide, by decide⟩, (Or.inr ⟨rfl, by omega⟩), hF _ rfl⟩
    · replace hF := hF.to (if_neg (fun hh => hh hc6))
      refine x_aload_n C.1 dX11_canTry_23 0 rfl ?_
      refine x_getA C (N := 129) (i := 0) (by decide) rfl vc_X11 wx_X11 0 (by decide) wf_X11_10 (a := 1) rfl dX11_canTry_24 ?_
      refine x_iload_n C.1 dX11_canTry_27 1 rfl ?_
      refine x_bipush C.1 (n := 20) dX11_canTry_28 ?_
      refine x_isub C.1 (v := x1 - 20) (by omega) dX11_canTry_30 ?_
      refine x_wrapg ?_
      intro z8 bz8 ew8
      have hw8 := wr_cases (z := x1 - 20) (by omega)
      replace hF := hF.to (rdb_e (z := z8) ew8.symm)
      refine x_callVi C (As := [vI z8]) (rest := []) 1 (xw_at (N := 129) (i := 1) (by omega) (xd_L (Or.inl rfl))) vc_X3 (s_isPerson l D cy ad G V J Rr hI hJ hR 1 (Or.inl rfl) z8 ⟨by omega, by omega⟩) (l1 := []) (l2 := []) (List.append_nil _).symm (w2 := fun _ => XW cy ad V J Rr) (fun _ => List.append_nil _) rfl wm_yX3_isPerson wn_X3 wl_X11_168 wi_yX3_isPerson we_yX3_isPerson hd_yX3_isPerson rfl ⟨Nat.le_of_ble_eq_true rfl, Nat.le_of_ble_eq_true rfl⟩ (Nat.le_of_ble_eq_true rfl) ⟨Nat.le_of_ble_eq_true rfl, Nat.le_of_ble_eq_true rfl⟩ dX11_canTry_31 (fun z9 u9 bz9 h9 => ?_)
      obtain ⟨hon9, hFc9⟩ := h9
      replace hF := calR_i hF hFc9
      replace hF := hF.fc hon9.r
      have bq9 := Sp.r hon9
      refine x_if_eq C.1 (tgt := 41) dX11_canTry_34 (by decide) (by omega) (fun hc10 => ?_) (fun hc10 => ?_)
      · replace hF := hF.to (if_pos hc10)
        refine x_iconst C.1 (n := 0) dX11_canTry_41 ?_
        exact x_zret (S := Unit) (post := (fun a (u : Unit) => (0 ≤ a ∧ a ≤ 1) ∧ (Sp a ((0 ≤ x1 ∧ x1 ≤ 3) ∨ (10 ≤ x1 ∧ x1 ≤ 13) ∨ (20 ≤ x1 ∧ x1 ≤ 27))) ∧ (f_s_canTry x1 V J Rr) a)) (w1 := (fun _ : Unit => XW cy ad V J Rr)) (a := 0) C hr rfl dX11_canTry_42 (by decide) () rfl ⟨⟨by decide, by decide⟩, (Or.inl rfl), hF _ rfl⟩
      · replace hF := hF.to (if_neg hc10)
        have hon11 := Sp.on hon9 (by omega)
        refine x_iconst C.1 (n := 1) dX11_canTry_37 ?_
        refine x_goto C.1 (tgt := 42) dX11_canTry_38 (by decide) ?_
        exact x_zret (S := Unit) (post := (fun a (u : Unit) => (0 ≤ a ∧ a ≤ 1) ∧ (Sp a ((0 ≤ x1 ∧ x1 ≤ 3) ∨ (10 ≤ x1 ∧ x1 ≤ 13) ∨ (20 ≤ x1 ∧ x1 ≤ 27))) ∧ (f_s_canTry x1 V J Rr) a)) (w1 := (fun _ : Unit => XW cy ad V J Rr)) (a := 1) C hr rfl dX11_canTry_42 (by decide) () rfl ⟨⟨by decide, by decide⟩, (Or.inr ⟨rfl, by omega⟩), hF _ rfl⟩
theorem dX11_lastsWith_0 : decode cX11_lastsWith 0 = .ok (.aload_n 0, 1) := by decide +kernel
theorem dX11_lastsWith_1 : decode cX11_lastsWith 1 = .ok (.getfield 19, 3) := by decide +kernel
theorem dX11_lastsWith_4 : decode cX11_lastsWith 4 = .ok (.getfield 78, 3) := by decide +kernel
theorem dX11_lastsWith_7 : decode cX11_lastsWith 7 = .ok (.iload_n 1, 1) := by decide +kernel
theorem dX11_lastsWith_8 : decode cX11_lastsWith 8 = .ok (.aaload, 1) := by decide +kernel
theorem dX11_lastsWith_9 : decode cX11_lastsWith 9 = .ok (.astore_n 3, 1) := by decide +kernel
theorem dX11_lastsWith_10 : decode cX11_lastsWith 10 = .ok (.aload_n 3, 1) := by decide +kernel
theorem dX11_lastsWith_11 : decode cX11_lastsWith 11 = .ok (.aload_n 0, 1) := by decide +kernel
theorem dX11_lastsWith_12 : decode cX11_lastsWith 12 = .ok (.getfield 10, 3) := by decide +kernel
theorem dX11_lastsWith_15 : decode cX11_lastsWith 15 = .ok (.getfield 78, 3) := by decide +kernel
theorem dX11_lastsWith_18 : decode cX11_lastsWith 18 = .ok (.iload_n 1, 1) := by decide +kernel
theorem dX11_lastsWith_19 : decode cX11_lastsWith 19 = .ok (.aaload, 1) := by decide +kernel
theorem dX11_lastsWith_20 : decode cX11_lastsWith 20 = .ok (.invokevirtual 361, 3) := by decide +kernel
theorem dX11_lastsWith_23 : decode cX11_lastsWith 23 = .ok (.aload_n 3, 1) := by decide +kernel
theorem dX11_lastsWith_24 : decode cX11_lastsWith 24 = .ok (.iload_n 2, 1) := by decide +kernel
theorem dX11_lastsWith_25 : decode cX11_lastsWith 25 = .ok (.invokevirtual 106, 3) := by decide +kernel
theorem dX11_lastsWith_28 : decode cX11_lastsWith 28 = .ok (.pop, 1) := by decide +kernel
theorem dX11_lastsWith_29 : decode cX11_lastsWith 29 = .ok (.aload_n 0, 1) := by decide +kernel
theorem dX11_lastsWith_30 : decode cX11_lastsWith 30 = .ok (.getfield 19, 3) := by decide +kernel
theorem dX11_lastsWith_33 : decode cX11_lastsWith 33 = .ok (.aload_n 0, 1) := by decide +kernel
theorem dX11_lastsWith_34 : decode cX11_lastsWith 34 = .ok (.getfield 10, 3) := by decide +kernel
theorem dX11_lastsWith_37 : decode cX11_lastsWith 37 = .ok (.getfield 296, 3) := by decide +kernel
theorem dX11_lastsWith_40 : decode cX11_lastsWith 40 = .ok (.putfield 296, 3) := by decide +kernel
theorem dX11_lastsWith_43 : decode cX11_lastsWith 43 = .ok (.iconst 0, 1) := by decide +kernel
theorem dX11_lastsWith_44 : decode cX11_lastsWith 44 = .ok (.istore 4, 2) := by decide +kernel
theorem dX11_lastsWith_46 : decode cX11_lastsWith 46 = .ok (.iload 4, 2) := by decide +kernel
theorem dX11_lastsWith_48 : decode cX11_lastsWith 48 = .ok (.bipush 60, 2) := by decide +kernel
theorem dX11_lastsWith_50 : decode cX11_lastsWith 50 = .ok (.if_icmp .ge 45, 3) := by decide +kernel
theorem dX11_lastsWith_53 : decode cX11_lastsWith 53 = .ok (.aload_n 0, 1) := by decide +kernel
theorem dX11_lastsWith_54 : decode cX11_lastsWith 54 = .ok (.getfield 19, 3) := by decide +kernel
theorem dX11_lastsWith_57 : decode cX11_lastsWith 57 = .ok (.aload_n 0, 1) := by decide +kernel
theorem dX11_lastsWith_58 : decode cX11_lastsWith 58 = .ok (.getfield 34, 3) := by decide +kernel
theorem dX11_lastsWith_61 : decode cX11_lastsWith 61 = .ok (.iload_n 1, 1) := by decide +kernel
theorem dX11_lastsWith_62 : decode cX11_lastsWith 62 = .ok (.iconst 0, 1) := by decide +kernel
theorem dX11_lastsWith_63 : decode cX11_lastsWith 63 = .ok (.invokevirtual 364, 3) := by decide +kernel
theorem dX11_lastsWith_66 : decode cX11_lastsWith 66 = .ok (.aload_n 0, 1) := by decide +kernel
theorem dX11_lastsWith_67 : decode cX11_lastsWith 67 = .ok (.getfield 19, 3) := by decide +kernel
theorem dX11_lastsWith_70 : decode cX11_lastsWith 70 = .ok (.dup, 1) := by decide +kernel
theorem dX11_lastsWith_71 : decode cX11_lastsWith 71 = .ok (.getfield 296, 3) := by decide +kernel
theorem dX11_lastsWith_74 : decode cX11_lastsWith 74 = .ok (.iconst 1, 1) := by decide +kernel
theorem dX11_lastsWith_75 : decode cX11_lastsWith 75 = .ok (.iadd, 1) := by decide +kernel
theorem dX11_lastsWith_76 : decode cX11_lastsWith 76 = .ok (.putfield 296, 3) := by decide +kernel
theorem dX11_lastsWith_79 : decode cX11_lastsWith 79 = .ok (.aload_n 3, 1) := by decide +kernel
theorem dX11_lastsWith_80 : decode cX11_lastsWith 80 = .ok (.invokevirtual 186, 3) := by decide +kernel
theorem dX11_lastsWith_83 : decode cX11_lastsWith 83 = .ok (.ifCond .eq 6, 3) := by decide +kernel
theorem dX11_lastsWith_86 : decode cX11_lastsWith 86 = .ok (.iload 4, 2) := by decide +kernel
theorem dX11_lastsWith_88 : decode cX11_lastsWith 88 = .ok (.ireturn, 1) := by decide +kernel
theorem dX11_lastsWith_89 : decode cX11_lastsWith 89 = .ok (.iinc 4 1, 3) := by decide +kernel
theorem dX11_lastsWith_92 : decode cX11_lastsWith 92 = .ok (.goto (-46), 3) := by decide +kernel
theorem dX11_lastsWith_95 : decode cX11_lastsWith 95 = .ok (.bipush 60, 2) := by decide +kernel
theorem dX11_lastsWith_97 : decode cX11_lastsWith 97 = .ok (.ireturn, 1) := by decide +kernel
set_option maxRecDepth 100000 in
def f_s_lastsWith (x1 : Int) (x2 : Int) (V : Nat → Nat → Int) (J : Nat → Nat → Int) (Rr : Nat → Nat → Nat) : (Int × (Nat → Nat → Int)) → Prop :=
  rdb (39 + 3 + 2 * x1.toNat) fun c1 => rdb (1 + 3 + 2 * x1.toNat) fun c2 => calUX (fun i k : Nat => (c1 ≤ i ∧ i ≤ c1 + 1)) V (f_s_copyP c1 c2 V J Rr) fun V3 => calVX (fun i k : Nat => (c1 ≤ i ∧ i ≤ c1 + 1)) V3 (f_s_wetBy c1 x2 V3 J Rr) fun z4 V4 => rdb (V4 1 3) fun z5 => rdb (up2 V4 39 3 z5) fun V6 => lop2 (62) (fun rc51 (z50 : Int) (V51 : Nat → Nat → Int) => (if 60 ≤ z50 then rtn (60, V51) else calUX (fun i k : Nat => (69 ≤ i ∧ i ≤ 71) ∨ (39 ≤ i ∧ i ≤ 39 + 18)) V51 (f_s_endDay 39 x1 0 V51 J Rr) fun V60 => rdb (V60 39 3) fun z61 => rdb (wr (z61 + 1)) fun z62 => rdb (up2 V60 39 3 z62) fun V63 => calR (f_s_isDeadP c1 V63 J Rr) fun z64 => fct (0 ≤ z64 ∧ z64 ≤ 1) <| (if z64 = 0 then rc51 (z50 + 1) V63 else rtn (z50, V63)))) 0 V6
set_option maxHeartbeats 8000000 in
set_option maxRecDepth 100000 in
theorem s_lastsWith (l : Launch) (D : va_G) (cy : Nat → ClassId) (ad : Nat → Nat) (G : Nat → Nat → Int) (V J : Nat → Nat → Int) (Rr : Nat → Nat → Nat) (hI : XI G V) (hJ : VJ J) (hR : XR Rr) (x1 : Int) (bx1 : 0 ≤ x1 ∧ x1 ≤ 3) (x2 : Int) (bx2 : -2147483648 ≤ x2 ∧ x2 ≤ 2147483647) : xMi l D (xTY cy) yX11_lastsWith cX11_lastsWith 5 (some .int) 5 123 0 0 [.ref (ad 0), vI x1, vI x2] (XW cy ad V J Rr) (fun u : Nat → Nat → Int => XW cy ad u J Rr) (fun a (u : Nat → Nat → Int) => XI G u ∧ (0 ≤ a ∧ a ≤ 60) ∧ FB (fun i k : Nat => (39 ≤ i ∧ i ≤ 57) ∨ (69 ≤ i ∧ i ≤ 71)) V u ∧ (f_s_lastsWith x1 x2 V J Rr) (a, u)) := by
  refine xMi.mk (lv0 := [(0, .ref (ad 0)), (1, vI x1), (2, vI x2)]) (by decide) rfl (Nat.le_of_ble_eq_true rfl) (fun p e s m below meth c A C hr hnm hAe => ?_)
  have C : xC2 p s m _ meth c D A s.heap 5 cX11_lastsWith RX11 (xTY cy) := C
  have hB : FB (fun i k : Nat => (39 ≤ i ∧ i ≤ 57) ∨ (69 ≤ i ∧ i ≤ 71)) V V := FB.rf _ _
  have hF := Imp.of_eq (f_s_lastsWith.eq_def x1 x2 V J Rr)
  refine x_aload_n C.1 dX11_lastsWith_0 0 rfl ?_
  refine x_getA C (N := 129) (i := 0) (by decide) rfl vc_X11 wx_X11 2 (by decide) wf_X11_19 (a := 39) rfl dX11_lastsWith_1 ?_
  refine x_getA C (N := 129) (i := 39) (by omega) (xd_L (Or.inr (Or.inr rfl))) vc_X3 wx_X3 0 (by decide) wf_X11_78 (a := 40) rfl dX11_lastsWith_4 ?_
  refine x_iload_n C.1 dX11_lastsWith_7 1 rfl ?_
  obtain ⟨c1, ec1, hc1⟩ : ∃ cx : Nat, 39 + 3 + 2 * x1.toNat = cx ∧ isPl cx := ⟨_, rfl, isPl_L (Or.inr (Or.inr rfl)) (by omega)⟩
  replace hF := hF.to (rdb_e (z := c1) ec1)
  refine x_aldS C (N := 129) (i := 40) (q := x1) (t := 4) rfl (by omega) (xd_La (Or.inr (Or.inr rfl))) (by omega) (by decide) dX11_lastsWith_8 (a := c1) ec1 ?_
  refine x_astore_n C.1 (lv' := [(3, .ref (ad c1)), (0, .ref (ad 0)), (1, vI x1), (2, vI x2)]) dX11_lastsWith_9 (by decide) rfl ?_
  refine x_aload_n C.1 dX11_lastsWith_10 0 rfl ?_
  refine x_aload_n C.1 dX11_lastsWith_11 1 rfl ?_
  refine x_getA C (N := 129) (i := 0) (by decide) rfl vc_X11 wx_X11 0 (by decide) wf_X11_10 (a := 1) rfl dX11_lastsWith_12 ?_
  refine x_getA C (N := 129) (i := 1) (by omega) (xd_L (Or.inl rfl)) vc_X3 wx_X3 0 (by decide) wf_X11_78 (a := 2) rfl dX11_lastsWith_15 ?_
  refine x_iload_n C.1 dX11_lastsWith_18 2 rfl ?_
  obtain ⟨c2, ec2, hc2⟩ : ∃ cx : Nat, 1 + 3 + 2 * x1.toNat = cx ∧ isPl cx := ⟨_, rfl, isPl_L (Or.inl rfl) (by omega)⟩
  replace hF := hF.to (rdb_e (z := c2) ec2)
  refine x_aldS C (N := 129) (i := 2) (q := x1) (t := 4) rfl (by omega) (xd_La (Or.inl rfl)) (by omega) (by decide) dX11_lastsWith_19 (a := c2) ec2 ?_
  refine x_callVv C (As := [.ref (ad c2)]) (rest := []) c1 (xw_at (N := 129) (i := c1) (Nat.lt_of_succ_lt hc1.1) hc1.2.1) vc_X5 (s_copyP l D cy ad G V J Rr hI hJ hR c1 hc1 c2 hc2 (fun k => pr_39 ec1 (by omega) k)) (l1 := []) (l2 := []) (List.append_nil _).symm (w2 := fun u : Nat → Nat → Int => XW cy ad u J Rr) (fun _ => List.append_nil _) rfl wm_yX5_copy wn_X5 wl_X11_361 wi_yX5_copy we_yX5_copy hd_yX5_copy rfl ⟨Nat.le_of_ble_eq_true rfl, Nat.le_of_ble_eq_true rfl⟩ (Nat.le_of_ble_eq_true rfl) ⟨Nat.le_of_ble_eq_true rfl, Nat.le_of_ble_eq_true rfl⟩ dX11_lastsWith_20 (fun V3 h3 => ?_)
  obtain ⟨hI3, hBc3, hFc3⟩ := h3
  replace hF := calUX_i hF hFc3 hBc3
  have hB3 := hB.tr hBc3 (fun i k h => (Or.inl (⟨by omega, by omega⟩)))
  refine x_aload_n C.1 dX11_lastsWith_23 0 rfl ?_
  refine x_iload_n C.1 dX11_lastsWith_24 3 rfl ?_
  refine x_callVi C (As := [vI x2]) (rest := []) c1 (xw_at (N := 129) (i := c1) (Nat.lt_of_succ_lt hc1.1) hc1.2.1) vc_X5 (s_wetBy l D cy ad G V3 J Rr hI3 hJ hR c1 hc1 x2 ⟨by omega, by omega⟩) (l1 := []) (l2 := []) (List.append_nil _).symm (w2 := fun u : Nat → Nat → Int => XW cy ad u J Rr) (fun _ => List.append_nil _) rfl wm_yX5_wetBy wn_X5 wl_X11_106 wi_yX5_wetBy we_yX5_wetBy hd_yX5_wetBy rfl ⟨Nat.le_of_ble_eq_true rfl, Nat.le_of_ble_eq_true rfl⟩ (Nat.le_of_ble_eq_true rfl) ⟨Nat.le_of_ble_eq_true rfl, Nat.le_of_ble_eq_true rfl⟩ dX11_lastsWith_25 (fun z4 V4 bz4 h4 => ?_)
  obtain ⟨hI4, hBc4, hFc4⟩ := h4
  replace hF := calVX_i hF hFc4 hBc4
  have hB4 := hB3.tr hBc4 (fun i k h => (Or.inl (⟨by omega, by omega⟩)))
  refine x_pop C.1 dX11_lastsWith_28 rfl ?_
  refine x_aload_n C.1 dX11_lastsWith_29 1 rfl ?_
  refine x_getA C (N := 129) (i := 0) (by decide) rfl vc_X11 wx_X11 2 (by decide) wf_X11_19 (a := 39) rfl dX11_lastsWith_30 ?_
  refine x_aload_n C.1 dX11_lastsWith_33 1 rfl ?_
  refine x_getA C (N := 129) (i := 0) (by decide) rfl vc_X11 wx_X11 0 (by decide) wf_X11_10 (a := 1) rfl dX11_lastsWith_34 ?_
  obtain ⟨z5, ez5, bz5⟩ := hI4.rd 1 3 (x := -2147483648) (y := 2147483647) (rg_L (Or.inl rfl) _)
  replace hF := hF.to (rdb_e (z := z5) ez5)
  refine x_getI C (N := 129) (i := 1) (by omega) (xd_L (Or.inl rfl)) vc_X3 wx_X3 3 (by decide) wf_X11_296 rfl dX11_lastsWith_37 (a := z5) ez5 ?_
  refine x_putI C (N := 129) (i := 39) (by omega) (xd_L (Or.inr (Or.inr rfl))) vc_X3 wx_X3 3 (by decide) wf_X11_296 tyX3 tyX3_ok nmX3 rfl (tyX3_ok 3 (by decide)) rfl dX11_lastsWith_40 rfl rfl ?_
  refine x_gV ?_
  intro V6 hV6
  have hI6 : XI G V6 := hI4.up hV6 (rg_L (Or.inr (Or.inr rfl)) _) (by omega) (pr_L (Or.inr (Or.inr rfl)) _)
  have hB6 := hB4.up hV6 (Or.inl (⟨by decide, by decide⟩))
  replace hF := hF.to (rdb_e (z := V6) hV6.symm)
  refine x_iconst C.1 (n := 0) dX11_lastsWith_43 ?_
  refine x_istore C.1 (lv' := [(4, vI 0), (3, .ref (ad c1)), (0, .ref (ad 0)), (1, vI x1), (2, vI x2)]) dX11_lastsWith_44 (by decide) rfl ?_
  obtain ⟨bd51, hbd51, hF⟩ := lop2_ex hF
  refine x_loop (I := fun x : Int × (Nat → Nat → Int) => match x with | (z50, V51) => (0 ≤ z50 ∧ z50 ≤ 60) ∧ XI G V51 ∧ FB (fun i k : Nat => (39 ≤ i ∧ i ≤ 57) ∨ (69 ≤ i ∧ i ≤ 71)) V V51 ∧ (∃ nf : Nat, (61 - z50).toNat < nf ∧ Imp (lop2 nf bd51 z50 V51) (f_s_lastsWith x1 x2 V J Rr))) (μ := fun x : Int × (Nat → Nat → Int) => match x with | (z50, V51) => (61 - z50).toNat) (wsf := fun x : Int × (Nat → Nat → Int) => match x with | (z50, V51) => XW cy ad V51 J Rr) (lvf := fun x : Int × (Nat → Nat → Int) => match x with | (z50, V51) => [(4, vI z50), (3, .ref (ad c1)), (0, .ref (ad 0)), (1, vI x1), (2, vI x2)]) (fun x hI51x ih51 => ?_) (0, V6) ⟨⟨by decide, by decide⟩, hI6, hB6, ⟨_, (by omega), hF⟩⟩ rfl rfl
  obtain ⟨z50, V51⟩ := x
  obtain ⟨bz50, hI51, hB51, nf51, hn51, hF⟩ := hI51x
  try dsimp only
  obtain ⟨nf51, rfl⟩ : ∃ mm, nf51 = mm + 1 := ⟨nf51 - 1, (Nat.succ_pred_eq_of_pos (Nat.lt_of_le_of_lt (Nat.zero_le _) hn51)).symm⟩
  replace hF := hF.to (lop2_s hbd51)
  refine x_iload C.1 dX11_lastsWith_46 0 rfl ?_
  refine x_bipush C.1 (n := 60) dX11_lastsWith_48 ?_
  refine x_icmp_ge C.1 (tgt := 95) dX11_lastsWith_50 (by decide) (by omega) (by decide) (fun hc59 => ?_) (fun hc59 => ?_)
  · replace hF := hF.to (if_pos hc59)
    refine x_bipush C.1 (n := 60) dX11_lastsWith_95 ?_
    exact x_iret (S := (Nat → Nat → Int)) (post := (fun a (u : Nat → Nat → Int) => XI G u ∧ (0 ≤ a ∧ a ≤ 60) ∧ FB (fun i k : Nat => (39 ≤ i ∧ i ≤ 57) ∨ (69 ≤ i ∧ i ≤ 71)) V u ∧ (f_s_lastsWith x1 x2 V J Rr) (a, u))) (w1 := (fun u : Nat → Nat → Int => XW cy ad u J Rr)) (a := 60) C hr rfl dX11_lastsWith_97 (by decide) V51 rfl ⟨hI51, ⟨by decide, by decide⟩, hB51, hF _ rfl⟩
  · replace hF := hF.to (if_neg hc59)
    refine x_aload_n C.1 dX11_lastsWith_53 2 rfl ?_
    refine x_getA C (N := 129) (i := 0) (by decide) rfl vc_X11 wx_X11 2 (by decide) wf_X11_19 (a := 39) rfl dX11_lastsWith_54 ?_
    refine x_aload_n C.1 dX11_lastsWith_57 2 rfl ?_
    refine x_getA C (N := 129) (i := 0) (by decide) rfl vc_X11 wx_X11 5 (by decide) wf_X11_34 (a := 60) rfl dX11_lastsWith_58 ?_
    refine x_iload_n C.1 dX11_lastsWith_61 3 rfl ?_
    refine x_iconst C.1 (n := 0) dX11_lastsWith_62 ?_
    refine x_callVv C (As := [.ref (ad 60), vI x1, vI 0]) (rest := []) 39 (xw_at (N := 129) (i := 39) (by omega) (xd_L (Or.inr (Or.inr rfl)))) vc_X3 (s_endDay l D cy ad G V51 J Rr hI51 hJ hR 39 (Or.inr (Or.inr rfl)) x1 ⟨by omega, by omega⟩ 0 ⟨by decide, by decide⟩) (l1 := []) (l2 := []) (List.append_nil _).symm (w2 := fun u : Nat → Nat → Int => XW cy ad u J Rr) (fun _ => List.append_nil _) rfl wm_yX3_endDay wn_X3 wl_X11_364 wi_yX3_endDay we_yX3_endDay hd_yX3_endDay rfl ⟨Nat.le_of_ble_eq_true rfl, Nat.le_of_ble_eq_true rfl⟩ (Nat.le_of_ble_eq_true rfl) ⟨Nat.le_of_ble_eq_true rfl, Nat.le_of_ble_eq_true rfl⟩ dX11_lastsWith_63 (fun V60 h60 => ?_)
    obtain ⟨hI60, hBc60, hFc60⟩ := h60
    replace hF := calUX_i hF hFc60 hBc60
    have hB60 := hB51.tr hBc60 (fun i k h => (h.elim (fun h => (Or.inr (h))) (fun h => (Or.inl (⟨by omega, by omega⟩)))))
    refine x_aload_n C.1 dX11_lastsWith_66 2 rfl ?_
    refine x_getA C (N := 129) (i := 0) (by decide) rfl vc_X11 wx_X11 2 (by decide) wf_X11_19 (a := 39) rfl dX11_lastsWith_67 ?_
    refine x_dup C.1 dX11_lastsWith_70 rfl ?_
    obtain ⟨z61, ez61, bz61⟩ := hI60.rd 39 3 (x := -2147483648) (y := 2147483647) (rg_L (Or.inr (Or.inr rfl)) _)
    replace hF := hF.to (rdb_e (z := z61) ez61)
    refine x_getI C (N := 129) (i := 39) (by omega) (xd_L (Or.inr (Or.inr rfl))) vc_X3 wx_X3 3 (by decide) wf_X11_296 rfl dX11_lastsWith_71 (a := z61) ez61 ?_
    refine x_iconst C.1 (n := 1) dX11_lastsWith_74 ?_
    refine x_iadd C.1 (v := z61 + 1) (by omega) dX11_lastsWith_75 ?_
    refine x_wrapg ?_
    intro z62 bz62 ew62
    replace hF := hF.to (rdb_e (z := z62) ew62.symm)
    refine x_putI C (N := 129) (i := 39) (by omega) (xd_L (Or.inr (Or.inr rfl))) vc_X3 wx_X3 3 (by decide) wf_X11_296 tyX3 tyX3_ok nmX3 rfl (tyX3_ok 3 (by decide)) rfl dX11_lastsWith_76 rfl rfl ?_
    refine x_gV ?_
    intro V63 hV63
    have hI63 : XI G V63 := hI60.up hV63 (rg_L (Or.inr (Or.inr rfl)) _) (by omega) (pr_L (Or.inr (Or.inr rfl)) _)
    have hB63 := hB60.up hV63 (Or.inl (⟨by decide, by decide⟩))
    replace hF := hF.to (rdb_e (z := V63) hV63.symm)
    refine x_aload_n C.1 dX11_lastsWith_79 1 rfl ?_
    refine x_callVi C (As := []) (rest := []) c1 (xw_at (N := 129) (i := c1) (Nat.lt_of_succ_lt hc1.1) hc1.2.1) vc_X5 (s_isDeadP l D cy ad G V63 J Rr hI63 hJ hR c1 hc1) (l1 := []) (l2 := []) (List.append_nil _).symm (w2 := fun _ => XW cy ad V63 J Rr) (fun _ => List.append_nil _) rfl wm_yX5_isDead wn_X5 wl_X11_186 wi_yX5_isDead we_yX5_isDead hd_yX5_isDead rfl ⟨Nat.le_of_ble_eq_true rfl, Nat.le_of_ble_eq_true rfl⟩ (Nat.le_of_ble_eq_true rfl) ⟨Nat.le_of_ble_eq_true rfl, Nat.le_of_ble_eq_true rfl⟩ dX11_lastsWith_80 (fun z64 u64 bz64 h64 => ?_)
    obtain ⟨bq64, hFc64⟩ := h64
    replace hF := calR_i hF hFc64
    replace hF := hF.fc bq64
    refine x_if_eq C.1 (tgt := 89) dX11_lastsWith_83 (by decide) (by omega) (fun hc65 => ?_) (fun hc65 => ?_)
    · replace hF := hF.to (if_pos hc65)
      refine x_iinc C.1 (v := z50 + 1) (lv' := [(4, vI (z50 + 1)), (3, .ref (ad c1)), (0, .ref (ad 0)), (1, vI x1), (2, vI x2)]) (by omega) dX11_lastsWith_89 0 rfl (by decide) rfl ?_
      refine x_goto C.1 (tgt := 46) dX11_lastsWith_92 (by decide) ?_
      have hmu51 : (61 - (z50 + 1)).toNat < (61 - z50).toNat := (by omega)
      exact ih51 (z50 + 1, V63) ⟨⟨by omega, by omega⟩, hI63, hB63, ⟨nf51, Nat.lt_of_lt_of_le hmu51 (Nat.le_of_lt_succ hn51), hF⟩⟩ hmu51
    · replace hF := hF.to (if_neg hc65)
      refine x_iload C.1 dX11_lastsWith_86 0 rfl ?_
      exact x_iret (S := (Nat → Nat → Int)) (post := (fun a (u : Nat → Nat → Int) => XI G u ∧ (0 ≤ a ∧ a ≤ 60) ∧ FB (fun i k : Nat => (39 ≤ i ∧ i ≤ 57) ∨ (69 ≤ i ∧ i ≤ 71)) V u ∧ (f_s_lastsWith x1 x2 V J Rr) (a, u))) (w1 := (fun u : Nat → Nat → Int => XW cy ad u J Rr)) (a := z50) C hr rfl dX11_lastsWith_88 (by omega) V63 rfl ⟨hI63, ⟨by omega, by omega⟩, hB63, hF _ rfl⟩
theorem hd_yX11_lastsWith : yX11_lastsWith.cls ≠ "java/lang/invoke/MethodHandle" ∧ yX11_lastsWith.cls ≠ "java/lang/invoke/VarHandle" ∧ (parseMethodDescriptor yX11_lastsWith.desc).map (fun d => d.parameters.length) = some 2 := by decide +kernel
theorem hd_yX3_copy : yX3_copy.cls ≠ "java/lang/invoke/MethodHandle" ∧ yX3_copy.cls ≠ "java/lang/invoke/VarHandle" ∧ (parseMethodDescriptor yX3_copy.desc).map (fun d => d.parameters.length) = some 1 := by decide +kernel
theorem dX11_fillLasting_0 : decode cX11_fillLasting 0 = .ok (.aload_n 0, 1) := by decide +kernel
theorem dX11_fillLasting_1 : decode cX11_fillLasting 1 = .ok (.getfield 19, 3) := by decide +kernel
theorem dX11_fillLasting_4 : decode cX11_fillLasting 4 = .ok (.aload_n 0, 1) := by decide +kernel
theorem dX11_fillLasting_5 : decode cX11_fillLasting 5 = .ok (.getfield 10, 3) := by decide +kernel
theorem dX11_fillLasting_8 : decode cX11_fillLasting 8 = .ok (.invokevirtual 142, 3) := by decide +kernel
theorem dX11_fillLasting_11 : decode cX11_fillLasting 11 = .ok (.iconst 0, 1) := by decide +kernel
theorem dX11_fillLasting_12 : decode cX11_fillLasting 12 = .ok (.istore_n 2, 1) := by decide +kernel
theorem dX11_fillLasting_13 : decode cX11_fillLasting 13 = .ok (.iload_n 2, 1) := by decide +kernel
theorem dX11_fillLasting_14 : decode cX11_fillLasting 14 = .ok (.iconst 4, 1) := by decide +kernel
theorem dX11_fillLasting_15 : decode cX11_fillLasting 15 = .ok (.if_icmp .ge 60, 3) := by decide +kernel
theorem dX11_fillLasting_18 : decode cX11_fillLasting 18 = .ok (.iconst 0, 1) := by decide +kernel
theorem dX11_fillLasting_19 : decode cX11_fillLasting 19 = .ok (.istore_n 3, 1) := by decide +kernel
theorem dX11_fillLasting_20 : decode cX11_fillLasting 20 = .ok (.iload_n 3, 1) := by decide +kernel
theorem dX11_fillLasting_21 : decode cX11_fillLasting 21 = .ok (.iload_n 1, 1) := by decide +kernel
theorem dX11_fillLasting_22 : decode cX11_fillLasting 22 = .ok (.if_icmp .gt 47, 3) := by decide +kernel
theorem dX11_fillLasting_25 : decode cX11_fillLasting 25 = .ok (.iload_n 3, 1) := by decide +kernel
theorem dX11_fillLasting_26 : decode cX11_fillLasting 26 = .ok (.bipush 24, 2) := by decide +kernel
theorem dX11_fillLasting_28 : decode cX11_fillLasting 28 = .ok (.if_icmp .gt 41, 3) := by decide +kernel
theorem dX11_fillLasting_31 : decode cX11_fillLasting 31 = .ok (.aload_n 0, 1) := by decide +kernel
theorem dX11_fillLasting_32 : decode cX11_fillLasting 32 = .ok (.getfield 59, 3) := by decide +kernel
theorem dX11_fillLasting_35 : decode cX11_fillLasting 35 = .ok (.iload_n 2, 1) := by decide +kernel
theorem dX11_fillLasting_36 : decode cX11_fillLasting 36 = .ok (.bipush 25, 2) := by decide +kernel
theorem dX11_fillLasting_38 : decode cX11_fillLasting 38 = .ok (.imul, 1) := by decide +kernel
theorem dX11_fillLasting_39 : decode cX11_fillLasting 39 = .ok (.iload_n 3, 1) := by decide +kernel
theorem dX11_fillLasting_40 : decode cX11_fillLasting 40 = .ok (.iadd, 1) := by decide +kernel
theorem dX11_fillLasting_41 : decode cX11_fillLasting 41 = .ok (.aload_n 0, 1) := by decide +kernel
theorem dX11_fillLasting_42 : decode cX11_fillLasting 42 = .ok (.getfield 10, 3) := by decide +kernel
theorem dX11_fillLasting_45 : decode cX11_fillLasting 45 = .ok (.iload_n 2, 1) := by decide +kernel
theorem dX11_fillLasting_46 : decode cX11_fillLasting 46 = .ok (.invokevirtual 103, 3) := by decide +kernel
theorem dX11_fillLasting_49 : decode cX11_fillLasting 49 = .ok (.ifCond .eq 12, 3) := by decide +kernel
theorem dX11_fillLasting_52 : decode cX11_fillLasting 52 = .ok (.aload_n 0, 1) := by decide +kernel
theorem dX11_fillLasting_53 : decode cX11_fillLasting 53 = .ok (.iload_n 2, 1) := by decide +kernel
theorem dX11_fillLasting_54 : decode cX11_fillLasting 54 = .ok (.iload_n 3, 1) := by decide +kernel
theorem dX11_fillLasting_55 : decode cX11_fillLasting 55 = .ok (.invokevirtual 250, 3) := by decide +kernel
theorem dX11_fillLasting_58 : decode cX11_fillLasting 58 = .ok (.goto 4, 3) := by decide +kernel
theorem dX11_fillLasting_61 : decode cX11_fillLasting 61 = .ok (.iconst 0, 1) := by decide +kernel
theorem dX11_fillLasting_62 : decode cX11_fillLasting 62 = .ok (.iastore, 1) := by decide +kernel
theorem dX11_fillLasting_63 : decode cX11_fillLasting 63 = .ok (.iinc 3 1, 3) := by decide +kernel
theorem dX11_fillLasting_66 : decode cX11_fillLasting 66 = .ok (.goto (-46), 3) := by decide +kernel
theorem dX11_fillLasting_69 : decode cX11_fillLasting 69 = .ok (.iinc 2 1, 3) := by decide +kernel
theorem dX11_fillLasting_72 : decode cX11_fillLasting 72 = .ok (.goto (-59), 3) := by decide +kernel
theorem dX11_fillLasting_75 : decode cX11_fillLasting 75 = .ok (.return_, 1) := by decide +kernel
set_option maxRecDepth 100000 in
def f_s_fillLasting (x1 : Int) (V : Nat → Nat → Int) (J : Nat → Nat → Int) (Rr : Nat → Nat → Nat) : (Nat → Nat → Int) → Prop :=
  calUX (fun i k : Nat => (39 ≤ i ∧ i ≤ 57)) V (f_s_copyT V J Rr) fun V1 => lop2 (6) (fun rc884 (z883 : Int) (V884 : Nat → Nat → Int) => (if 4 ≤ z883 then rtn V884 else lop2 (27) (fun rc1146 (z1145 : Int) (V1146 : Nat → Nat → Int) => (if x1 < z1145 then rc884 (z883 + 1) V1146 else calR (f_s_isAlive 1 z883 V1146 J Rr) fun z1176 => fct (0 ≤ z1176 ∧ z1176 ≤ 1) <| jnk (fun (z1179 : Int) (V1180 : Nat → Nat → Int) => rdb (up2 V1180 126 ((25 * z883 + z1145).toNat) z1179) fun V1181 => rc1146 (z1145 + 1) V1181) fun jf1180 => (if z1176 = 0 then jf1180 0 V1146 else calVX (fun i k : Nat => (39 ≤ i ∧ i ≤ 57) ∨ (69 ≤ i ∧ i ≤ 71)) V1146 (f_s_lastsWith z883 z1145 V1146 J Rr) fun z1184 V1184 => fct (0 ≤ z1184 ∧ z1184 ≤ 60) <| jf1180 z1184 V1184))) 0 V884)) 0 V1
set_option maxHeartbeats 8000000 in
set_option maxRecDepth 100000 in
theorem s_fillLasting (l : Launch) (D : va_G) (cy : Nat → ClassId) (ad : Nat → Nat) (G : Nat → Nat → Int) (V J : Nat → Nat → Int) (Rr : Nat → Nat → Nat) (hI : XI G V) (hJ : VJ J) (hR : XR Rr) (x1 : Int) (bx1 : 0 ≤ x1 ∧ x1 ≤ 24) : xMv l D (xTY cy) yX11_fillLasting cX11_fillLasting 4 none 6 147 0 0 [.ref (ad 0), vI x1] (XW cy ad V J Rr) (fun u : Nat → Nat → Int => XW cy ad u J Rr) (fun u : Nat → Nat → Int => XI G u ∧ FB (fun i k : Nat => (39 ≤ i ∧ i ≤ 57) ∨ (69 ≤ i ∧ i ≤ 71) ∨ (126 ≤ i ∧ i ≤ 126)) V u ∧ (f_s_fillLasting x1 V J Rr) u) := by
  refine xMv.mk (lv0 := [(0, .ref (ad 0)), (1, vI x1)]) (by decide) rfl (Nat.le_of_ble_eq_true rfl) (fun p e s m below meth c A C hr hnm hAe => ?_)
  have C : xC2 p s m _ meth c D A s.heap 4 cX11_fillLasting RX11 (xTY cy) := C
  have hB : FB (fun i k : Nat => (39 ≤ i ∧ i ≤ 57) ∨ (69 ≤ i ∧ i ≤ 71) ∨ (126 ≤ i ∧ i ≤ 126)) V V := FB.rf _ _
  have hF := Imp.of_eq (f_s_fillLasting.eq_def x1 V J Rr)
  refine x_aload_n C.1 dX11_fillLasting_0 0 rfl ?_
  refine x_getA C (N := 129) (i := 0) (by decide) rfl vc_X11 wx_X11 2 (by decide) wf_X11_19 (a := 39) rfl dX11_fillLasting_1 ?_
  refine x_aload_n C.1 dX11_fillLasting_4 0 rfl ?_
  refine x_getA C (N := 129) (i := 0) (by decide) rfl vc_X11 wx_X11 0 (by decide) wf_X11_10 (a := 1) rfl dX11_fillLasting_5 ?_
  refine x_callVv C (As := [.ref (ad 1)]) (rest := []) 39 (xw_at (N := 129) (i := 39) (by omega) (xd_L (Or.inr (Or.inr rfl)))) vc_X3 (s_copyT l D cy ad G V J Rr hI hJ hR ) (l1 := []) (l2 := []) (List.append_nil _).symm (w2 := fun u : Nat → Nat → Int => XW cy ad u J Rr) (fun _ => List.append_nil _) rfl wm_yX3_copy wn_X3 wl_X11_142 wi_yX3_copy we_yX3_copy hd_yX3_copy rfl ⟨Nat.le_of_ble_eq_true rfl, Nat.le_of_ble_eq_true rfl⟩ (Nat.le_of_ble_eq_true rfl) ⟨Nat.le_of_ble_eq_true rfl, Nat.le_of_ble_eq_true rfl⟩ dX11_fillLasting_8 (fun V1 h1 => ?_)
  obtain ⟨hI1, hBc1, hFc1⟩ := h1
  replace hF := calUX_i hF hFc1 hBc1
  have hB1 := hB.tr hBc1 (fun i k h => (Or.inl h))
  refine x_iconst C.1 (n := 0) dX11_fillLasting_11 ?_
  refine x_istore_n C.1 (lv' := [(2, vI 0), (0, .ref (ad 0)), (1, vI x1)]) dX11_fillLasting_12 (by decide) rfl ?_
  obtain ⟨bd884, hbd884, hF⟩ := lop2_ex hF
  refine x_loop (I := fun x : Int × (Nat → Nat → Int) => match x with | (z883, V884) => (0 ≤ z883 ∧ z883 ≤ 4) ∧ XI G V884 ∧ FB (fun i k : Nat => (39 ≤ i ∧ i ≤ 57) ∨ (69 ≤ i ∧ i ≤ 71) ∨ (126 ≤ i ∧ i ≤ 126)) V V884 ∧ (∃ nf : Nat, (5 - z883).toNat < nf ∧ Imp (lop2 nf bd884 z883 V884) (f_s_fillLasting x1 V J Rr))) (μ := fun x : Int × (Nat → Nat → Int) => match x with | (z883, V884) => (5 - z883).toNat) (wsf := fun x : Int × (Nat → Nat → Int) => match x with | (z883, V884) => XW cy ad V884 J Rr) (lvf := fun x : Int × (Nat → Nat → Int) => match x with | (z883, V884) => [(2, vI z883), (0, .ref (ad 0)), (1, vI x1)]) (fun x hI884x ih884 => ?_) (0, V1) ⟨⟨by decide, by decide⟩, hI1, hB1, ⟨_, (by omega), hF⟩⟩ rfl rfl
  obtain ⟨z883, V884⟩ := x
  obtain ⟨bz883, hI884, hB884, nf884, hn884, hF⟩ := hI884x
  try dsimp only
  obtain ⟨nf884, rfl⟩ : ∃ mm, nf884 = mm + 1 := ⟨nf884 - 1, (Nat.succ_pred_eq_of_pos (Nat.lt_of_le_of_lt (Nat.zero_le _) hn884)).symm⟩
  replace hF := hF.to (lop2_s hbd884)
  refine x_iload_n C.1 dX11_fillLasting_13 0 rfl ?_
  refine x_iconst C.1 (n := 4) dX11_fillLasting_14 ?_
  refine x_icmp_ge C.1 (tgt := 75) dX11_fillLasting_15 (by decide) (by omega) (by decide) (fun hc1035 => ?_) (fun hc1035 => ?_)
  · replace hF := hF.to (if_pos hc1035)
    exact x_vret (S := (Nat → Nat → Int)) (post := (fun u : Nat → Nat → Int => XI G u ∧ FB (fun i k : Nat => (39 ≤ i ∧ i ≤ 57) ∨ (69 ≤ i ∧ i ≤ 71) ∨ (126 ≤ i ∧ i ≤ 126)) V u ∧ (f_s_fillLasting x1 V J Rr) u)) (w1 := (fun u : Nat → Nat → Int => XW cy ad u J Rr)) C hr rfl dX11_fillLasting_75 V884 rfl ⟨hI884, hB884, hF _ rfl⟩
  · replace hF := hF.to (if_neg hc1035)
    refine x_iconst C.1 (n := 0) dX11_fillLasting_18 ?_
    refine x_istore_n C.1 (lv' := [(3, vI 0), (2, vI z883), (0, .ref (ad 0)), (1, vI x1)]) dX11_fillLasting_19 (by decide) rfl ?_
    obtain ⟨bd1146, hbd1146, hF⟩ := lop2_ex hF
    refine x_loop (I := fun x : Int × (Nat → Nat → Int) => match x with | (z1145, V1146) => (0 ≤ z1145 ∧ z1145 ≤ 25) ∧ XI G V1146 ∧ FB (fun i k : Nat => (39 ≤ i ∧ i ≤ 57) ∨ (69 ≤ i ∧ i ≤ 71) ∨ (126 ≤ i ∧ i ≤ 126)) V V1146 ∧ (∃ nf : Nat, (26 - z1145).toNat < nf ∧ Imp (lop2 nf bd1146 z1145 V1146) (f_s_fillLasting x1 V J Rr))) (μ := fun x : Int × (Nat → Nat → Int) => match x with | (z1145, V1146) => (26 - z1145).toNat) (wsf := fun x : Int × (Nat → Nat → Int) => match x with | (z1145, V1146) => XW cy ad V1146 J Rr) (lvf := fun x : Int × (Nat → Nat → Int) => match x with | (z1145, V1146) => [(3, vI z1145), (2, vI z883), (0, .ref (ad 0)), (1, vI x1)]) (fun x hI1146x ih1146 => ?_) (0, V884) ⟨⟨by decide, by decide⟩, hI884, hB884, ⟨_, (by omega), hF⟩⟩ rfl rfl
    obtain ⟨z1145, V1146⟩ := x
    obtain ⟨bz1145, hI1146, hB1146, nf1146, hn1146, hF⟩ := hI1146x
    try dsimp only
    obtain ⟨nf1146, rfl⟩ : ∃ mm, nf1146 = mm + 1 := ⟨nf1146 - 1, (Nat.succ_pred_eq_of_pos (Nat.lt_of_le_of_lt (Nat.zero_le _) hn1146)).symm⟩
    replace hF := hF.to (lop2_s hbd1146)
    refine x_iload_n C.1 dX11_fillLasting_20 0 rfl ?_
    refine x_iload_n C.1 dX11_fillLasting_21 3 rfl ?_
    refine x_icmp_gt C.1 (tgt := 69) dX11_fillLasting_22 (by decide) (by omega) (by omega) (fun hc1175 => ?_) (fun hc1175 => ?_)
    · replace hF := hF.to (if_pos hc1175)
      refine x_iinc C.1 (v := z883 + 1) (lv' := [(2, vI (z883 + 1)), (3, vI z1145), (0, .ref (ad 0)), (1, vI x1)]) (by omega) dX11_fillLasting_69 1 rfl (by decide) rfl ?_
      refine x_goto C.1 (tgt := 13) dX11_fillLasting_72 (by decide) ?_
      refine x_lv [(2, vI (z883 + 1)), (0, .ref (ad 0)), (1, vI x1)] [0, 2, 3] rfl ?_
      have hmu884 : (5 - (z883 + 1)).toNat < (5 - z883).toNat := (by omega)
      exact ih884 (z883 + 1, V1146) ⟨⟨by omega, by omega⟩, hI1146, hB1146, ⟨nf884, Nat.lt_of_lt_of_le hmu884 (Nat.le_of_lt_succ hn884), hF⟩⟩ hmu884
    · replace hF := hF.to (if_neg hc1175)
      refine x_iload_n C.1 dX11_fillLasting_25 0 rfl ?_
      refine x_bipush C.1 (n := 24) dX11_fillLasting_26 ?_
      refine x_icmp_gt_f C.1 (tgt := 69) dX11_fillLasting_28 (by decide) (by omega) (by decide) (by omega) ?_
      refine x_aload_n C.1 dX11_fillLasting_31 2 rfl ?_
      refine x_getA C (N := 129) (i := 0) (by decide) rfl vc_X11 wx_X11 9 (by decide) wf_X11_59 (a := 126) rfl dX11_fillLasting_32 ?_
      refine x_iload_n C.1 dX11_fillLasting_35 1 rfl ?_
      refine x_bipush C.1 (n := 25) dX11_fillLasting_36 ?_
      refine x_imul C.1 (v := 25 * z883) (by omega) dX11_fillLasting_38 ?_
      refine x_iload_n C.1 dX11_fillLasting_39 0 rfl ?_
      refine x_iadd C.1 (v := 25 * z883 + z1145) (by omega) dX11_fillLasting_40 ?_
      refine x_aload_n C.1 dX11_fillLasting_41 2 rfl ?_
      refine x_getA C (N := 129) (i := 0) (by decide) rfl vc_X11 wx_X11 0 (by decide) wf_X11_10 (a := 1) rfl dX11_fillLasting_42 ?_
      refine x_iload_n C.1 dX11_fillLasting_45 1 rfl ?_
      refine x_callVi C (As := [vI z883]) (rest := [vI (25 * z883 + z1145), .ref (ad 126)]) 1 (xw_at (N := 129) (i := 1) (by omega) (xd_L (Or.inl rfl))) vc_X3 (s_isAlive l D cy ad G V1146 J Rr hI1146 hJ hR 1 (Or.inl rfl) z883 ⟨by omega, by omega⟩) (l1 := []) (l2 := []) (List.append_nil _).symm (w2 := fun _ => XW cy ad V1146 J Rr) (fun _ => List.append_nil _) rfl wm_yX3_isAlive wn_X3 wl_X11_103 wi_yX3_isAlive we_yX3_isAlive hd_yX3_isAlive rfl ⟨Nat.le_of_ble_eq_true rfl, Nat.le_of_ble_eq_true rfl⟩ (Nat.le_of_ble_eq_true rfl) ⟨Nat.le_of_ble_eq_true rfl, Nat.le_of_ble_eq_true rfl⟩ dX11_fillLasting_46 (fun z1176 u1176 bz1176 h1176 => ?_)
      obtain ⟨hon1176, hFc1176⟩ := h1176
      replace hF := calR_i hF hFc1176
      replace hF := hF.fc hon1176.r
      have bq1176 := Sp.r hon1176
      obtain ⟨jf1180, hjf1180, hF⟩ := jn_ex hF
      refine x_join (I := fun x : Int × (Nat → Nat → Int) => match x with | (z1179, V1180) => (0 ≤ z1179 ∧ z1179 ≤ 60) ∧ XI G V1180 ∧ FB (fun i k : Nat => (39 ≤ i ∧ i ≤ 57) ∨ (69 ≤ i ∧ i ≤ 71) ∨ (126 ≤ i ∧ i ≤ 126)) V V1180 ∧ Imp (jf1180 z1179 V1180) (f_s_fillLasting x1 V J Rr)) (wsf := fun x : Int × (Nat → Nat → Int) => match x with | (z1179, V1180) => XW cy ad V1180 J Rr) (lvf := fun x : Int × (Nat → Nat → Int) => match x with | (z1179, V1180) => [(3, vI z1145), (2, vI z883), (0, .ref (ad 0)), (1, vI x1)]) (stf := fun x : Int × (Nat → Nat → Int) => match x with | (z1179, V1180) => [vI z1179, vI (25 * z883 + z1145), .ref (ad 126)]) 62 (fun x hI1180x => ?_) (fun jn1180 => ?_)
      · obtain ⟨z1179, V1180⟩ := x
        obtain ⟨bz1179, hI1180, hB1180, hF⟩ := hI1180x
        try dsimp only
        replace hF := hF.to (jn_s2 hjf1180)
        refine x_iast C (N := 129) (i := 126) (q := 25 * z883 + z1145) (a := z1179) (by decide) rfl (by omega) (by decide) dX11_fillLasting_62 ?_
        refine x_gV ?_
        intro V1181 hV1181
        have hI1181 : XI G V1181 := hI1180.up hV1181 rfl (by omega) rfl
        have hB1181 := hB1180.up hV1181 (Or.inr (Or.inr (⟨by decide, by decide⟩)))
        replace hF := hF.to (rdb_e (z := V1181) hV1181.symm)
        refine x_iinc C.1 (v := z1145 + 1) (lv' := [(3, vI (z1145 + 1)), (2, vI z883), (0, .ref (ad 0)), (1, vI x1)]) (by omega) dX11_fillLasting_63 0 rfl (by decide) rfl ?_
        refine x_goto C.1 (tgt := 20) dX11_fillLasting_66 (by decide) ?_
        have hmu1146 : (26 - (z1145 + 1)).toNat < (26 - z1145).toNat := (by omega)
        exact ih1146 (z1145 + 1, V1181) ⟨⟨by omega, by omega⟩, hI1181, hB1181, ⟨nf1146, Nat.lt_of_lt_of_le hmu1146 (Nat.le_of_lt_succ hn1146), hF⟩⟩ hmu1146
      · refine x_if_eq C.1 (tgt := 61) dX11_fillLasting_49 (by decide) (by omega) (fun hc1182 => ?_) (fun hc1182 => ?_)
        · replace hF := hF.to (if_pos hc1182)
          refine x_iconst C.1 (n := 0) dX11_fillLasting_61 ?_
          exact jn1180 (0, V1146) ⟨⟨by decide, by decide⟩, hI1146, hB1146, hF⟩
        · replace hF := hF.to (if_neg hc1182)
          have hon1183 := Sp.on hon1176 (by omega)
          refine x_aload_n C.1 dX11_fillLasting_52 2 rfl ?_
          refine x_iload_n C.1 dX11_fillLasting_53 1 rfl ?_
          refine x_iload_n C.1 dX11_fillLasting_54 0 rfl ?_
          refine x_callVi C (As := [vI z883, vI z1145]) (rest := [vI (25 * z883 + z1145), .ref (ad 126)]) 0 (xw_at (N := 129) (i := 0) (by decide) rfl) vc_X11 (s_lastsWith l D cy ad G V1146 J Rr hI1146 hJ hR z883 ⟨by omega, by omega⟩ z1145 ⟨by omega, by omega⟩) (l1 := []) (l2 := []) (List.append_nil _).symm (w2 := fun u : Nat → Nat → Int => XW cy ad u J Rr) (fun _ => List.append_nil _) rfl wm_yX11_lastsWith wn_X11 wl_X11_250 wi_yX11_lastsWith we_yX11_lastsWith hd_yX11_lastsWith rfl ⟨Nat.le_of_ble_eq_true rfl, Nat.le_of_ble_eq_true rfl⟩ (Nat.le_of_ble_eq_true rfl) ⟨Nat.le_of_ble_eq_true rfl, Nat.le_of_ble_eq_true rfl⟩ dX11_fillLasting_55 (fun z1184 V1184 bz1184 h1184 => ?_)
          obtain ⟨hI1184, bq1184, hBc1184, hFc1184⟩ := h1184
          replace hF := calVX_i hF hFc1184 hBc1184
          replace hF := hF.fc bq1184
          have hB1184 := hB1146.tr hBc1184 (fun i k h => (h.elim (fun h => (Or.inl h)) (fun h => (Or.inr (Or.inl h)))))
          refine x_goto C.1 (tgt := 62) dX11_fillLasting_58 (by decide) ?_
          exact jn1180 (z1184, V1184) ⟨⟨by omega, by omega⟩, hI1184, hB1184, hF⟩
theorem dX11_least_0 : decode cX11_least 0 = .ok (.aload_n 0, 1) := by decide +kernel
theorem dX11_least_1 : decode cX11_least 1 = .ok (.getfield 10, 3) := by decide +kernel
theorem dX11_least_4 : decode cX11_least 4 = .ok (.iload_n 2, 1) := by decide +kernel
theorem dX11_least_5 : decode cX11_least 5 = .ok (.invokevirtual 103, 3) := by decide +kernel
theorem dX11_least_8 : decode cX11_least 8 = .ok (.ifCond .ne 13, 3) := by decide +kernel
theorem dX11_least_11 : decode cX11_least 11 = .ok (.iload_n 3, 1) := by decide +kernel
theorem dX11_least_12 : decode cX11_least 12 = .ok (.ifCond .ne 7, 3) := by decide +kernel
theorem dX11_least_15 : decode cX11_least 15 = .ok (.iload_n 1, 1) := by decide +kernel
theorem dX11_least_16 : decode cX11_least 16 = .ok (.goto 4, 3) := by decide +kernel
theorem dX11_least_19 : decode cX11_least 19 = .ok (.iconst (-1), 1) := by decide +kernel
theorem dX11_least_20 : decode cX11_least 20 = .ok (.ireturn, 1) := by decide +kernel
theorem dX11_least_21 : decode cX11_least 21 = .ok (.iload_n 1, 1) := by decide +kernel
theorem dX11_least_22 : decode cX11_least 22 = .ok (.aload_n 0, 1) := by decide +kernel
theorem dX11_least_23 : decode cX11_least 23 = .ok (.getfield 59, 3) := by decide +kernel
theorem dX11_least_26 : decode cX11_least 26 = .ok (.iload_n 2, 1) := by decide +kernel
theorem dX11_least_27 : decode cX11_least 27 = .ok (.bipush 25, 2) := by decide +kernel
theorem dX11_least_29 : decode cX11_least 29 = .ok (.imul, 1) := by decide +kernel
theorem dX11_least_30 : decode cX11_least 30 = .ok (.iload_n 3, 1) := by decide +kernel
theorem dX11_least_31 : decode cX11_least 31 = .ok (.iadd, 1) := by decide +kernel
theorem dX11_least_32 : decode cX11_least 32 = .ok (.iaload, 1) := by decide +kernel
theorem dX11_least_33 : decode cX11_least 33 = .ok (.invokestatic 323, 3) := by decide +kernel
theorem dX11_least_36 : decode cX11_least 36 = .ok (.ireturn, 1) := by decide +kernel
set_option maxRecDepth 100000 in
def f_s_least (x1 : Int) (x2 : Int) (x3 : Int) (V : Nat → Nat → Int) (J : Nat → Nat → Int) (Rr : Nat → Nat → Nat) : (Int) → Prop :=
  calR (f_s_isAlive 1 x2 V J Rr) fun z1 => fct (0 ≤ z1 ∧ z1 ≤ 1) <| (if ¬ z1 = 0 then rdb (V 126 ((25 * x2 + x3).toNat)) fun z4 => rdb (min x1 z4) fun z5 => rtn z5 else (if ¬ x3 = 0 then rtn ((-1)) else rtn x1))
set_option maxHeartbeats 8000000 in
set_option maxRecDepth 100000 in
theorem s_least (l : Launch) (D : va_G) (cy : Nat → ClassId) (ad : Nat → Nat) (G : Nat → Nat → Int) (V J : Nat → Nat → Int) (Rr : Nat → Nat → Nat) (hI : XI G V) (hJ : VJ J) (hR : XR Rr) (x1 : Int) (bx1 : -2147483648 ≤ x1 ∧ x1 ≤ 2147483647) (x2 : Int) (bx2 : 0 ≤ x2 ∧ x2 ≤ 3) (x3 : Int) (bx3 : 0 ≤ x3 ∧ x3 ≤ 24) : xMi l D (xTY cy) yX11_least cX11_least 4 (some .int) 3 63 0 0 [.ref (ad 0), vI x1, vI x2, vI x3] (XW cy ad V J Rr) (fun _ : Unit => XW cy ad V J Rr) (fun a (u : Unit) => (f_s_least x1 x2 x3 V J Rr) a) := by
  refine xMi.mk (lv0 := [(0, .ref (ad 0)), (1, vI x1), (2, vI x2), (3, vI x3)]) (by decide) rfl (Nat.le_of_ble_eq_true rfl) (fun p e s m below meth c A C hr hnm hAe => ?_)
  have C : xC2 p s m _ meth c D A s.heap 4 cX11_least RX11 (xTY cy) := C
  have hF := Imp.of_eq (f_s_least.eq_def x1 x2 x3 V J Rr)
  refine x_aload_n C.1 dX11_least_0 0 rfl ?_
  refine x_getA C (N := 129) (i := 0) (by decide) rfl vc_X11 wx_X11 0 (by decide) wf_X11_10 (a := 1) rfl dX11_least_1 ?_
  refine x_iload_n C.1 dX11_least_4 2 rfl ?_
  refine x_callVi C (As := [vI x2]) (rest := []) 1 (xw_at (N := 129) (i := 1) (by omega) (xd_L (Or.inl rfl))) vc_X3 (s_isAlive l D cy ad G V J Rr hI hJ hR 1 (Or.inl rfl) x2 ⟨by omega, by omega⟩) (l1 := []) (l2 := []) (List.append_nil _).symm (w2 := fun _ => XW cy ad V J Rr) (fun _ => List.append_nil _) rfl wm_yX3_isAlive wn_X3 wl_X11_103 wi_yX3_isAlive we_yX3_isAlive hd_yX3_isAlive rfl ⟨Nat.le_of_ble_eq_true rfl, Nat.le_of_ble_eq_true rfl⟩ (Nat.le_of_ble_eq_true rfl) ⟨Nat.le_of_ble_eq_true rfl, Nat.le_of_ble_eq_true rfl⟩ dX11_least_5 (fun z1 u1 bz1 h1 => ?_)
  obtain ⟨hon1, hFc1⟩ := h1
  replace hF := calR_i hF hFc1
  replace hF := hF.fc hon1.r
  have bq1 := Sp.r hon1
  refine x_if_ne C.1 (tgt := 21) dX11_least_8 (by decide) (by omega) (fun hc2 => ?_) (fun hc2 => ?_)
  · replace hF := hF.to (if_pos hc2)
    have hon3 := Sp.on hon1 (by omega)
    refine x_iload_n C.1 dX11_least_21 1 rfl ?_
    refine x_aload_n C.1 dX11_least_22 0 rfl ?_
    refine x_getA C (N := 129) (i := 0) (by decide) rfl vc_X11 wx_X11 9 (by decide) wf_X11_59 (a := 126) rfl dX11_least_23 ?_
    refine x_iload_n C.1 dX11_least_26 2 rfl ?_
    refine x_bipush C.1 (n := 25) dX11_least_27 ?_
    refine x_imul C.1 (v := 25 * x2) (by omega) dX11_least_29 ?_
    refine x_iload_n C.1 dX11_least_30 3 rfl ?_
    refine x_iadd C.1 (v := 25 * x2 + x3) (by omega) dX11_least_31 ?_
    obtain ⟨z4, ez4, bz4⟩ := hI.rd 126 ((25 * x2 + x3).toNat) (x := -2147483648) (y := 2147483647) rfl
    replace hF := hF.to (rdb_e (z := z4) ez4)
    refine x_iald C (N := 129) (i := 126) (q := 25 * x2 + x3) (by decide) rfl (by omega) (by decide) dX11_least_32 (a := z4) ez4 ?_
    refine x_mmin C wl_X11_323 (by omega) (by omega) dX11_least_33 ⟨Nat.le_of_ble_eq_true rfl, Nat.le_of_ble_eq_true rfl⟩ (Nat.le_of_ble_eq_true rfl) ⟨Nat.le_of_ble_eq_true rfl, Nat.le_of_ble_eq_true rfl⟩ (fun z5 hx5 => ?_)
    have bz5 : -2147483648 ≤ z5 ∧ z5 ≤ 2147483647 := by omega
    replace hF := hF.to (rdb_e (z := z5) (by omega))
    clear hx5
    exact x_iret (S := Unit) (post := (fun a (u : Unit) => (f_s_least x1 x2 x3 V J Rr) a)) (w1 := (fun _ : Unit => XW cy ad V J Rr)) (a := z5) C hr rfl dX11_least_36 (by omega) () rfl (hF _ rfl)
  · replace hF := hF.to (if_neg (fun hh => hh hc2))
    refine x_iload_n C.1 dX11_least_11 3 rfl ?_
    refine x_if_ne C.1 (tgt := 19) dX11_least_12 (by decide) (by omega) (fun hc6 => ?_) (fun hc6 => ?_)
    · replace hF := hF.to (if_pos hc6)
      refine x_iconst C.1 (n := -1) dX11_least_19 ?_
      exact x_iret (S := Unit) (post := (fun a (u : Unit) => (f_s_least x1 x2 x3 V J Rr) a)) (w1 := (fun _ : Unit => XW cy ad V J Rr)) (a := (-1)) C hr rfl dX11_least_20 (by decide) () rfl (hF _ rfl)
    · replace hF := hF.to (if_neg (fun hh => hh hc6))
      refine x_iload_n C.1 dX11_least_15 1 rfl ?_
      refine x_goto C.1 (tgt := 20) dX11_least_16 (by decide) ?_
      exact x_iret (S := Unit) (post := (fun a (u : Unit) => (f_s_least x1 x2 x3 V J Rr) a)) (w1 := (fun _ : Unit => XW cy ad V J Rr)) (a := x1) C hr rfl dX11_least_20 (by omega) () rfl (hF _ rfl)
theorem hd_yX11_least : yX11_least.cls ≠ "java/lang/invoke/MethodHandle" ∧ yX11_least.cls ≠ "java/lang/invoke/VarHandle" ∧ (parseMethodDescriptor yX11_least.desc).map (fun d => d.parameters.length) = some 3 := by decide +kernel
theorem dX11_spreadBest_0 : decode cX11_spreadBest 0 = .ok (.iconst (-1), 1) := by decide +kernel
theorem dX11_spreadBest_1 : decode cX11_spreadBest 1 = .ok (.istore_n 2, 1) := by decide +kernel
theorem dX11_spreadBest_2 : decode cX11_spreadBest 2 = .ok (.iconst 0, 1) := by decide +kernel
theorem dX11_spreadBest_3 : decode cX11_spreadBest 3 = .ok (.istore_n 3, 1) := by decide +kernel
theorem dX11_spreadBest_4 : decode cX11_spreadBest 4 = .ok (.iload_n 3, 1) := by decide +kernel
theorem dX11_spreadBest_5 : decode cX11_spreadBest 5 = .ok (.iload_n 1, 1) := by decide +kernel
theorem dX11_spreadBest_6 : decode cX11_spreadBest 6 = .ok (.if_icmp .gt 132, 3) := by decide +kernel
theorem dX11_spreadBest_9 : decode cX11_spreadBest 9 = .ok (.iconst 0, 1) := by decide +kernel
theorem dX11_spreadBest_10 : decode cX11_spreadBest 10 = .ok (.istore 4, 2) := by decide +kernel
theorem dX11_spreadBest_12 : decode cX11_spreadBest 12 = .ok (.iload 4, 2) := by decide +kernel
theorem dX11_spreadBest_14 : decode cX11_spreadBest 14 = .ok (.iload_n 1, 1) := by decide +kernel
theorem dX11_spreadBest_15 : decode cX11_spreadBest 15 = .ok (.iload_n 3, 1) := by decide +kernel
theorem dX11_spreadBest_16 : decode cX11_spreadBest 16 = .ok (.isub, 1) := by decide +kernel
theorem dX11_spreadBest_17 : decode cX11_spreadBest 17 = .ok (.if_icmp .gt 115, 3) := by decide +kernel
theorem dX11_spreadBest_20 : decode cX11_spreadBest 20 = .ok (.iconst 0, 1) := by decide +kernel
theorem dX11_spreadBest_21 : decode cX11_spreadBest 21 = .ok (.istore 5, 2) := by decide +kernel
theorem dX11_spreadBest_23 : decode cX11_spreadBest 23 = .ok (.iload 5, 2) := by decide +kernel
theorem dX11_spreadBest_25 : decode cX11_spreadBest 25 = .ok (.iload_n 1, 1) := by decide +kernel
theorem dX11_spreadBest_26 : decode cX11_spreadBest 26 = .ok (.iload_n 3, 1) := by decide +kernel
theorem dX11_spreadBest_27 : decode cX11_spreadBest 27 = .ok (.isub, 1) := by decide +kernel
theorem dX11_spreadBest_28 : decode cX11_spreadBest 28 = .ok (.iload 4, 2) := by decide +kernel
theorem dX11_spreadBest_30 : decode cX11_spreadBest 30 = .ok (.isub, 1) := by decide +kernel
theorem dX11_spreadBest_31 : decode cX11_spreadBest 31 = .ok (.if_icmp .gt 95, 3) := by decide +kernel
theorem dX11_spreadBest_34 : decode cX11_spreadBest 34 = .ok (.iload_n 1, 1) := by decide +kernel
theorem dX11_spreadBest_35 : decode cX11_spreadBest 35 = .ok (.iload_n 3, 1) := by decide +kernel
theorem dX11_spreadBest_36 : decode cX11_spreadBest 36 = .ok (.isub, 1) := by decide +kernel
theorem dX11_spreadBest_37 : decode cX11_spreadBest 37 = .ok (.iload 4, 2) := by decide +kernel
theorem dX11_spreadBest_39 : decode cX11_spreadBest 39 = .ok (.isub, 1) := by decide +kernel
theorem dX11_spreadBest_40 : decode cX11_spreadBest 40 = .ok (.iload 5, 2) := by decide +kernel
theorem dX11_spreadBest_42 : decode cX11_spreadBest 42 = .ok (.isub, 1) := by decide +kernel
theorem dX11_spreadBest_43 : decode cX11_spreadBest 43 = .ok (.istore 6, 2) := by decide +kernel
theorem dX11_spreadBest_45 : decode cX11_spreadBest 45 = .ok (.aload_n 0, 1) := by decide +kernel
theorem dX11_spreadBest_46 : decode cX11_spreadBest 46 = .ok (.aload_n 0, 1) := by decide +kernel
theorem dX11_spreadBest_47 : decode cX11_spreadBest 47 = .ok (.aload_n 0, 1) := by decide +kernel
theorem dX11_spreadBest_48 : decode cX11_spreadBest 48 = .ok (.bipush 60, 2) := by decide +kernel
theorem dX11_spreadBest_50 : decode cX11_spreadBest 50 = .ok (.iconst 0, 1) := by decide +kernel
theorem dX11_spreadBest_51 : decode cX11_spreadBest 51 = .ok (.iload_n 3, 1) := by decide +kernel
theorem dX11_spreadBest_52 : decode cX11_spreadBest 52 = .ok (.invokevirtual 368, 3) := by decide +kernel
theorem dX11_spreadBest_55 : decode cX11_spreadBest 55 = .ok (.iconst 1, 1) := by decide +kernel
theorem dX11_spreadBest_56 : decode cX11_spreadBest 56 = .ok (.iload 4, 2) := by decide +kernel
theorem dX11_spreadBest_58 : decode cX11_spreadBest 58 = .ok (.invokevirtual 368, 3) := by decide +kernel
theorem dX11_spreadBest_61 : decode cX11_spreadBest 61 = .ok (.iconst 2, 1) := by decide +kernel
theorem dX11_spreadBest_62 : decode cX11_spreadBest 62 = .ok (.iload 5, 2) := by decide +kernel
theorem dX11_spreadBest_64 : decode cX11_spreadBest 64 = .ok (.invokevirtual 368, 3) := by decide +kernel
theorem dX11_spreadBest_67 : decode cX11_spreadBest 67 = .ok (.istore 7, 2) := by decide +kernel
theorem dX11_spreadBest_69 : decode cX11_spreadBest 69 = .ok (.aload_n 0, 1) := by decide +kernel
theorem dX11_spreadBest_70 : decode cX11_spreadBest 70 = .ok (.iload 7, 2) := by decide +kernel
theorem dX11_spreadBest_72 : decode cX11_spreadBest 72 = .ok (.iconst 3, 1) := by decide +kernel
theorem dX11_spreadBest_73 : decode cX11_spreadBest 73 = .ok (.iload 6, 2) := by decide +kernel
theorem dX11_spreadBest_75 : decode cX11_spreadBest 75 = .ok (.invokevirtual 368, 3) := by decide +kernel
theorem dX11_spreadBest_78 : decode cX11_spreadBest 78 = .ok (.istore 7, 2) := by decide +kernel
theorem dX11_spreadBest_80 : decode cX11_spreadBest 80 = .ok (.iload 7, 2) := by decide +kernel
theorem dX11_spreadBest_82 : decode cX11_spreadBest 82 = .ok (.iload_n 2, 1) := by decide +kernel
theorem dX11_spreadBest_83 : decode cX11_spreadBest 83 = .ok (.if_icmp .le 37, 3) := by decide +kernel
theorem dX11_spreadBest_86 : decode cX11_spreadBest 86 = .ok (.iload 7, 2) := by decide +kernel
theorem dX11_spreadBest_88 : decode cX11_spreadBest 88 = .ok (.istore_n 2, 1) := by decide +kernel
theorem dX11_spreadBest_89 : decode cX11_spreadBest 89 = .ok (.aload_n 0, 1) := by decide +kernel
theorem dX11_spreadBest_90 : decode cX11_spreadBest 90 = .ok (.getfield 63, 3) := by decide +kernel
theorem dX11_spreadBest_93 : decode cX11_spreadBest 93 = .ok (.iconst 0, 1) := by decide +kernel
theorem dX11_spreadBest_94 : decode cX11_spreadBest 94 = .ok (.iload_n 3, 1) := by decide +kernel
theorem dX11_spreadBest_95 : decode cX11_spreadBest 95 = .ok (.iastore, 1) := by decide +kernel
theorem dX11_spreadBest_96 : decode cX11_spreadBest 96 = .ok (.aload_n 0, 1) := by decide +kernel
theorem dX11_spreadBest_97 : decode cX11_spreadBest 97 = .ok (.getfield 63, 3) := by decide +kernel
theorem dX11_spreadBest_100 : decode cX11_spreadBest 100 = .ok (.iconst 1, 1) := by decide +kernel
theorem dX11_spreadBest_101 : decode cX11_spreadBest 101 = .ok (.iload 4, 2) := by decide +kernel
theorem dX11_spreadBest_103 : decode cX11_spreadBest 103 = .ok (.iastore, 1) := by decide +kernel
theorem dX11_spreadBest_104 : decode cX11_spreadBest 104 = .ok (.aload_n 0, 1) := by decide +kernel
theorem dX11_spreadBest_105 : decode cX11_spreadBest 105 = .ok (.getfield 63, 3) := by decide +kernel
theorem dX11_spreadBest_108 : decode cX11_spreadBest 108 = .ok (.iconst 2, 1) := by decide +kernel
theorem dX11_spreadBest_109 : decode cX11_spreadBest 109 = .ok (.iload 5, 2) := by decide +kernel
theorem dX11_spreadBest_111 : decode cX11_spreadBest 111 = .ok (.iastore, 1) := by decide +kernel
theorem dX11_spreadBest_112 : decode cX11_spreadBest 112 = .ok (.aload_n 0, 1) := by decide +kernel
theorem dX11_spreadBest_113 : decode cX11_spreadBest 113 = .ok (.getfield 63, 3) := by decide +kernel
theorem dX11_spreadBest_116 : decode cX11_spreadBest 116 = .ok (.iconst 3, 1) := by decide +kernel
theorem dX11_spreadBest_117 : decode cX11_spreadBest 117 = .ok (.iload 6, 2) := by decide +kernel
theorem dX11_spreadBest_119 : decode cX11_spreadBest 119 = .ok (.iastore, 1) := by decide +kernel
theorem dX11_spreadBest_120 : decode cX11_spreadBest 120 = .ok (.iinc 5 1, 3) := by decide +kernel
theorem dX11_spreadBest_123 : decode cX11_spreadBest 123 = .ok (.goto (-100), 3) := by decide +kernel
theorem dX11_spreadBest_126 : decode cX11_spreadBest 126 = .ok (.iinc 4 1, 3) := by decide +kernel
theorem dX11_spreadBest_129 : decode cX11_spreadBest 129 = .ok (.goto (-117), 3) := by decide +kernel
theorem dX11_spreadBest_132 : decode cX11_spreadBest 132 = .ok (.iinc 3 1, 3) := by decide +kernel
theorem dX11_spreadBest_135 : decode cX11_spreadBest 135 = .ok (.goto (-131), 3) := by decide +kernel
theorem dX11_spreadBest_138 : decode cX11_spreadBest 138 = .ok (.iload_n 2, 1) := by decide +kernel
theorem dX11_spreadBest_139 : decode cX11_spreadBest 139 = .ok (.ireturn, 1) := by decide +kernel
set_option maxRecDepth 100000 in
def f_s_spreadBest (x1 : Int) (V : Nat → Nat → Int) (J : Nat → Nat → Int) (Rr : Nat → Nat → Nat) : (Int × (Nat → Nat → Int)) → Prop :=
  lop3 (27) (fun rc24691 (z24689 : Int) (z24690 : Int) (V24691 : Nat → Nat → Int) => (if x1 < z24689 then rtn (z24690, V24691) else lop3 (27) (fun rc31975 (z31973 : Int) (z31974 : Int) (V31975 : Nat → Nat → Int) => (if x1 - z24689 < z31973 then rc24691 (z24689 + 1) z31974 V31975 else lop3 (27) (fun rc32959 (z32957 : Int) (z32958 : Int) (V32959 : Nat → Nat → Int) => (if x1 - z24689 - z31973 < z32957 then rc31975 (z31973 + 1) z32958 V32959 else calR (f_s_least 60 0 z24689 V32959 J Rr) fun z33007 => calR (f_s_least z33007 1 z31973 V32959 J Rr) fun z33008 => calR (f_s_least z33008 2 z32957 V32959 J Rr) fun z33009 => calR (f_s_least z33009 3 (x1 - z24689 - z31973 - z32957) V32959 J Rr) fun z33010 => jnk (fun (z33015 : Int) (V33016 : Nat → Nat → Int) => rc32959 (z32957 + 1) z33015 V33016) fun jf33016 => (if z33010 ≤ z32958 then jf33016 z32958 V32959 else rdb (up2 V32959 127 0 z24689) fun V33018 => rdb (up2 V33018 127 1 z31973) fun V33019 => rdb (up2 V33019 127 2 z32957) fun V33020 => rdb (up2 V33020 127 3 (x1 - z24689 - z31973 - z32957)) fun V33021 => jf33016 z33010 V33021))) 0 z31974 V31975)) 0 z24690 V24691)) 0 ((-1)) V
set_option maxHeartbeats 8000000 in
set_option maxRecDepth 100000 in
theorem s_spreadBest (l : Launch) (D : va_G) (cy : Nat → ClassId) (ad : Nat → Nat) (G : Nat → Nat → Int) (V J : Nat → Nat → Int) (Rr : Nat → Nat → Nat) (hI : XI G V) (hJ : VJ J) (hR : XR Rr) (x1 : Int) (bx1 : 0 ≤ x1 ∧ x1 ≤ 24) : xMi l D (xTY cy) yX11_spreadBest cX11_spreadBest 8 (some .int) 4 86 0 0 [.ref (ad 0), vI x1] (XW cy ad V J Rr) (fun u : Nat → Nat → Int => XW cy ad u J Rr) (fun a (u : Nat → Nat → Int) => XI G u ∧ FB (fun i k : Nat => (127 ≤ i ∧ i ≤ 127)) V u ∧ (f_s_spreadBest x1 V J Rr) (a, u)) := by
  refine xMi.mk (lv0 := [(0, .ref (ad 0)), (1, vI x1)]) (by decide) rfl (Nat.le_of_ble_eq_true rfl) (fun p e s m below meth c A C hr hnm hAe => ?_)
  have C : xC2 p s m _ meth c D A s.heap 8 cX11_spreadBest RX11 (xTY cy) := C
  have hB : FB (fun i k : Nat => (127 ≤ i ∧ i ≤ 127)) V V := FB.rf _ _
  have hF := Imp.of_eq (f_s_spreadBest.eq_def x1 V J Rr)
  refine x_iconst C.1 (n := -1) dX11_spreadBest_0 ?_
  refine x_istore_n C.1 (lv' := [(2, vI (-1)), (0, .ref (ad 0)), (1, vI x1)]) dX11_spreadBest_1 (by decide) rfl ?_
  refine x_iconst C.1 (n := 0) dX11_spreadBest_2 ?_
  refine x_istore_n C.1 (lv' := [(3, vI 0), (2, vI (-1)), (0, .ref (ad 0)), (1, vI x1)]) dX11_spreadBest_3 (by decide) rfl ?_
  obtain ⟨bd24691, hbd24691, hF⟩ := lop3_ex hF
  refine x_loop (I := fun x : Int × Int × (Nat → Nat → Int) => match x with | (z24689, z24690, V24691) => (0 ≤ z24689 ∧ z24689 ≤ 25) ∧ (-1 ≤ z24690 ∧ z24690 ≤ 2147483647) ∧ XI G V24691 ∧ FB (fun i k : Nat => (127 ≤ i ∧ i ≤ 127)) V V24691 ∧ (∃ nf : Nat, (26 - z24689).toNat < nf ∧ Imp (lop3 nf bd24691 z24689 z24690 V24691) (f_s_spreadBest x1 V J Rr))) (μ := fun x : Int × Int × (Nat → Nat → Int) => match x with | (z24689, z24690, V24691) => (26 - z24689).toNat) (wsf := fun x : Int × Int × (Nat → Nat → Int) => match x with | (z24689, z24690, V24691) => XW cy ad V24691 J Rr) (lvf := fun x : Int × Int × (Nat → Nat → Int) => match x with | (z24689, z24690, V24691) => [(3, vI z24689), (2, vI z24690), (0, .ref (ad 0)), (1, vI x1)]) (fun x hI24691x ih24691 => ?_) (0, (-1), V) ⟨⟨by decide, by decide⟩, ⟨by decide, by decide⟩, hI, hB, ⟨_, (by omega), hF⟩⟩ rfl rfl
  obtain ⟨z24689, z24690, V24691⟩ := x
  obtain ⟨bz24689, bz24690, hI24691, hB24691, nf24691, hn24691, hF⟩ := hI24691x
  try dsimp only
  obtain ⟨nf24691, rfl⟩ : ∃ mm, nf24691 = mm + 1 := ⟨nf24691 - 1, (Nat.succ_pred_eq_of_pos (Nat.lt_of_le_of_lt (Nat.zero_le _) hn24691)).symm⟩
  replace hF := hF.to (lop3_s hbd24691)
  refine x_iload_n C.1 dX11_spreadBest_4 0 rfl ?_
  refine x_iload_n C.1 dX11_spreadBest_5 3 rfl ?_
  refine x_icmp_gt C.1 (tgt := 138) dX11_spreadBest_6 (by decide) (by omega) (by omega) (fun hc28857 => ?_) (fun hc28857 => ?_)
  · replace hF := hF.to (if_pos hc28857)
    refine x_iload_n C.1 dX11_spreadBest_138 1 rfl ?_
    exact x_iret (S := (Nat → Nat → Int)) (post := (fun a (u : Nat → Nat → Int) => XI G u ∧ FB (fun i k : Nat => (127 ≤ i ∧ i ≤ 127)) V u ∧ (f_s_spreadBest x1 V J Rr) (a, u))) (w1 := (fun u : Nat → Nat → Int => XW cy ad u J Rr)) (a := z24690) C hr rfl dX11_spreadBest_139 (by omega) V24691 rfl ⟨hI24691, hB24691, hF _ rfl⟩
  · replace hF := hF.to (if_neg hc28857)
    refine x_iconst C.1 (n := 0) dX11_spreadBest_9 ?_
    refine x_istore C.1 (lv' := [(4, vI 0), (3, vI z24689), (2, vI z24690), (0, .ref (ad 0)), (1, vI x1)]) dX11_spreadBest_10 (by decide) rfl ?_
    obtain ⟨bd31975, hbd31975, hF⟩ := lop3_ex hF
    refine x_loop (I := fun x : Int × Int × (Nat → Nat → Int) => match x with | (z31973, z31974, V31975) => (0 ≤ z31973 ∧ z31973 ≤ 25) ∧ (-1 ≤ z31974 ∧ z31974 ≤ 2147483647) ∧ XI G V31975 ∧ FB (fun i k : Nat => (127 ≤ i ∧ i ≤ 127)) V V31975 ∧ (∃ nf : Nat, (26 - z31973).toNat < nf ∧ Imp (lop3 nf bd31975 z31973 z31974 V31975) (f_s_spreadBest x1 V J Rr))) (μ := fun x : Int × Int × (Nat → Nat → Int) => match x with | (z31973, z31974, V31975) => (26 - z31973).toNat) (wsf := fun x : Int × Int × (Nat → Nat → Int) => match x with | (z31973, z31974, V31975) => XW cy ad V31975 J Rr) (lvf := fun x : Int × Int × (Nat → Nat → Int) => match x with | (z31973, z31974, V31975) => [(4, vI z31973), (3, vI z24689), (2, vI z31974), (0, .ref (ad 0)), (1, vI x1)]) (fun x hI31975x ih31975 => ?_) (0, z24690, V24691) ⟨⟨by decide, by decide⟩, ⟨by omega, by omega⟩, hI24691, hB24691, ⟨_, (by omega), hF⟩⟩ rfl rfl
    obtain ⟨z31973, z31974, V31975⟩ := x
    obtain ⟨bz31973, bz31974, hI31975, hB31975, nf31975, hn31975, hF⟩ := hI31975x
    try dsimp only
    obtain ⟨nf31975, rfl⟩ : ∃ mm, nf31975 = mm + 1 := ⟨nf31975 - 1, (Nat.succ_pred_eq_of_pos (Nat.lt_of_le_of_lt (Nat.zero_le _) hn31975)).symm⟩
    replace hF := hF.to (lop3_s hbd31975)
    refine x_iload C.1 dX11_spreadBest_12 0 rfl ?_
    refine x_iload_n C.1 dX11_spreadBest_14 4 rfl ?_
    refine x_iload_n C.1 dX11_spreadBest_15 1 rfl ?_
    refine x_isub C.1 (v := x1 - z24689) (by omega) dX11_spreadBest_16 ?_
    refine x_icmp_gt C.1 (tgt := 132) dX11_spreadBest_17 (by decide) (by omega) (by omega) (fun hc32760 => ?_) (fun hc32760 => ?_)
    · replace hF := hF.to (if_pos hc32760)
      refine x_iinc C.1 (v := z24689 + 1) (lv' := [(3, vI (z24689 + 1)), (4, vI z31973), (2, vI z31974), (0, .ref (ad 0)), (1, vI x1)]) (by omega) dX11_spreadBest_132 1 rfl (by decide) rfl ?_
      refine x_goto C.1 (tgt := 4) dX11_spreadBest_135 (by decide) ?_
      refine x_lv [(3, vI (z24689 + 1)), (2, vI z31974), (0, .ref (ad 0)), (1, vI x1)] [0, 2, 3, 4] rfl ?_
      have hmu24691 : (26 - (z24689 + 1)).toNat < (26 - z24689).toNat := (by omega)
      exact ih24691 (z24689 + 1, z31974, V31975) ⟨⟨by omega, by omega⟩, ⟨by omega, by omega⟩, hI31975, hB31975, ⟨nf24691, Nat.lt_of_lt_of_le hmu24691 (Nat.le_of_lt_succ hn24691), hF⟩⟩ hmu24691
    · replace hF := hF.to (if_neg hc32760)
      refine x_iconst C.1 (n := 0) dX11_spreadBest_20 ?_
      refine x_istore C.1 (lv' := [(5, vI 0), (4, vI z31973), (3, vI z24689), (2, vI z31974), (0, .ref (ad 0)), (1, vI x1)]) dX11_spreadBest_21 (by decide) rfl ?_
      obtain ⟨bd32959, hbd32959, hF⟩ := lop3_ex hF
      refine x_loop (I := fun x : Int × Int × (Nat → Nat → Int) => match x with | (z32957, z32958, V32959) => (0 ≤ z32957 ∧ z32957 ≤ 25) ∧ (-1 ≤ z32958 ∧ z32958 ≤ 2147483647) ∧ XI G V32959 ∧ FB (fun i k : Nat => (127 ≤ i ∧ i ≤ 127)) V V32959 ∧ (∃ nf : Nat, (26 - z32957).toNat < nf ∧ Imp (lop3 nf bd32959 z32957 z32958 V32959) (f_s_spreadBest x1 V J Rr))) (μ := fun x : Int × Int × (Nat → Nat → Int) => match x with | (z32957, z32958, V32959) => (26 - z32957).toNat) (wsf := fun x : Int × Int × (Nat → Nat → Int) => match x with | (z32957, z32958, V32959) => XW cy ad V32959 J Rr) (lvf := fun x : Int × Int × (Nat → Nat → Int) => match x with | (z32957, z32958, V32959) => [(5, vI z32957), (4, vI z31973), (3, vI z24689), (2, vI z32958), (0, .ref (ad 0)), (1, vI x1)]) (fun x hI32959x ih32959 => ?_) (0, z31974, V31975) ⟨⟨by decide, by decide⟩, ⟨by omega, by omega⟩, hI31975, hB31975, ⟨_, (by omega), hF⟩⟩ rfl rfl
      obtain ⟨z32957, z32958, V32959⟩ := x
      obtain ⟨bz32957, bz32958, hI32959, hB32959, nf32959, hn32959, hF⟩ := hI32959x
      try dsimp only
      obtain ⟨nf32959, rfl⟩ : ∃ mm, nf32959 = mm + 1 := ⟨nf32959 - 1, (Nat.succ_pred_eq_of_pos (Nat.lt_of_le_of_lt (Nat.zero_le _) hn32959)).symm⟩
      replace hF := hF.to (lop3_s hbd32959)
      refine x_iload C.1 dX11_spreadBest_23 0 rfl ?_
      refine x_iload_n C.1 dX11_spreadBest_25 5 rfl ?_
      refine x_iload_n C.1 dX11_spreadBest_26 2 rfl ?_
      refine x_isub C.1 (v := x1 - z24689) (by omega) dX11_spreadBest_27 ?_
      refine x_iload C.1 dX11_spreadBest_28 1 rfl ?_
      refine x_isub C.1 (v := x1 - z24689 - z31973) (by omega) dX11_spreadBest_30 ?_
      refine x_icmp_gt C.1 (tgt := 126) dX11_spreadBest_31 (by decide) (by omega) (by omega) (fun hc33006 => ?_) (fun hc33006 => ?_)
      · replace hF := hF.to (if_pos hc33006)
        refine x_iinc C.1 (v := z31973 + 1) (lv' := [(4, vI (z31973 + 1)), (5, vI z32957), (3, vI z24689), (2, vI z32958), (0, .ref (ad 0)), (1, vI x1)]) (by omega) dX11_spreadBest_126 1 rfl (by decide) rfl ?_
        refine x_goto C.1 (tgt := 12) dX11_spreadBest_129 (by decide) ?_
        refine x_lv [(4, vI (z31973 + 1)), (3, vI z24689), (2, vI z32958), (0, .ref (ad 0)), (1, vI x1)] [0, 2, 3, 4, 5] rfl ?_
        have hmu31975 : (26 - (z31973 + 1)).toNat < (26 - z31973).toNat := (by omega)
        exact ih31975 (z31973 + 1, z32958, V32959) ⟨⟨by omega, by omega⟩, ⟨by omega, by omega⟩, hI32959, hB32959, ⟨nf31975, Nat.lt_of_lt_of_le hmu31975 (Nat.le_of_lt_succ hn31975), hF⟩⟩ hmu31975
      · replace hF := hF.to (if_neg hc33006)
        refine x_iload_n C.1 dX11_spreadBest_34 5 rfl ?_
        refine x_iload_n C.1 dX11_spreadBest_35 2 rfl ?_
        refine x_isub C.1 (v := x1 - z24689) (by omega) dX11_spreadBest_36 ?_
        refine x_iload C.1 dX11_spreadBest_37 1 rfl ?_
        refine x_isub C.1 (v := x1 - z24689 - z31973) (by omega) dX11_spreadBest_39 ?_
        refine x_iload C.1 dX11_spreadBest_40 0 rfl ?_
        refine x_isub C.1 (v := x1 - z24689 - z31973 - z32957) (by omega) dX11_spreadBest_42 ?_
        refine x_istore C.1 (lv' := [(6, vI (x1 - z24689 - z31973 - z32957)), (5, vI z32957), (4, vI z31973), (3, vI z24689), (2, vI z32958), (0, .ref (ad 0)), (1, vI x1)]) dX11_spreadBest_43 (by decide) rfl ?_
        refine x_aload_n C.1 dX11_spreadBest_45 5 rfl ?_
        refine x_aload_n C.1 dX11_spreadBest_46 5 rfl ?_
        refine x_aload_n C.1 dX11_spreadBest_47 5 rfl ?_
        refine x_bipush C.1 (n := 60) dX11_spreadBest_48 ?_
        refine x_iconst C.1 (n := 0) dX11_spreadBest_50 ?_
        refine x_iload_n C.1 dX11_spreadBest_51 3 rfl ?_
        refine x_callVi C (As := [vI 60, vI 0, vI z24689]) (rest := [.ref (ad 0), .ref (ad 0)]) 0 (xw_at (N := 129) (i := 0) (by decide) rfl) vc_X11 (s_least l D cy ad G V32959 J Rr hI32959 hJ hR 60 ⟨by decide, by decide⟩ 0 ⟨by decide, by decide⟩ z24689 ⟨by omega, by omega⟩) (l1 := []) (l2 := []) (List.append_nil _).symm (w2 := fun _ => XW cy ad V32959 J Rr) (fun _ => List.append_nil _) rfl wm_yX11_least wn_X11 wl_X11_368 wi_yX11_least we_yX11_least hd_yX11_least rfl ⟨Nat.le_of_ble_eq_true rfl, Nat.le_of_ble_eq_true rfl⟩ (Nat.le_of_ble_eq_true rfl) ⟨Nat.le_of_ble_eq_true rfl, Nat.le_of_ble_eq_true rfl⟩ dX11_spreadBest_52 (fun z33007 u33007 bz33007 h33007 => ?_)
        have hFc33007 := h33007
        replace hF := calR_i hF hFc33007
        refine x_iconst C.1 (n := 1) dX11_spreadBest_55 ?_
        refine x_iload C.1 dX11_spreadBest_56 2 rfl ?_
        refine x_callVi C (As := [vI z33007, vI 1, vI z31973]) (rest := [.ref (ad 0)]) 0 (xw_at (N := 129) (i := 0) (by decide) rfl) vc_X11 (s_least l D cy ad G V32959 J Rr hI32959 hJ hR z33007 ⟨by omega, by omega⟩ 1 ⟨by decide, by decide⟩ z31973 ⟨by omega, by omega⟩) (l1 := []) (l2 := []) (List.append_nil _).symm (w2 := fun _ => XW cy ad V32959 J Rr) (fun _ => List.append_nil _) rfl wm_yX11_least wn_X11 wl_X11_368 wi_yX11_least we_yX11_least hd_yX11_least rfl ⟨Nat.le_of_ble_eq_true rfl, Nat.le_of_ble_eq_true rfl⟩ (Nat.le_of_ble_eq_true rfl) ⟨Nat.le_of_ble_eq_true rfl, Nat.le_of_ble_eq_true rfl⟩ dX11_spreadBest_58 (fun z33008 u33008 bz33008 h33008 => ?_)
        have hFc33008 := h33008
        replace hF := calR_i hF hFc33008
        refine x_iconst C.1 (n := 2) dX11_spreadBest_61 ?_
        refine x_iload C.1 dX11_spreadBest_62 1 rfl ?_
        refine x_callVi C (As := [vI z33008, vI 2, vI z32957]) (rest := []) 0 (xw_at (N := 129) (i := 0) (by decide) rfl) vc_X11 (s_least l D cy ad G V32959 J Rr hI32959 hJ hR z33008 ⟨by omega, by omega⟩ 2 ⟨by decide, by decide⟩ z32957 ⟨by omega, by omega⟩) (l1 := []) (l2 := []) (List.append_nil _).symm (w2 := fun _ => XW cy ad V32959 J Rr) (fun _ => List.append_nil _) rfl wm_yX11_least wn_X11 wl_X11_368 wi_yX11_least we_yX11_least hd_yX11_least rfl ⟨Nat.le_of_ble_eq_true rfl, Nat.le_of_ble_eq_true rfl⟩ (Nat.le_of_ble_eq_true rfl) ⟨Nat.le_of_ble_eq_true rfl, Nat.le_of_ble_eq_true rfl⟩ dX11_spreadBest_64 (fun z33009 u33009 bz33009 h33009 => ?_)
        have hFc33009 := h33009
        replace hF := calR_i hF hFc33009
        refine x_istore C.1 (lv' := [(7, vI z33009), (6, vI (x1 - z24689 - z31973 - z32957)), (5, vI z32957), (4, vI z31973), (3, vI z24689), (2, vI z32958), (0, .ref (ad 0)), (1, vI x1)]) dX11_spreadBest_67 (by decide) rfl ?_
        refine x_aload_n C.1 dX11_spreadBest_69 6 rfl ?_
        refine x_iload C.1 dX11_spreadBest_70 0 rfl ?_
        refine x_iconst C.1 (n := 3) dX11_spreadBest_72 ?_
        refine x_iload C.1 dX11_spreadBest_73 1 rfl ?_
        refine x_callVi C (As := [vI z33009, vI 3, vI (x1 - z24689 - z31973 - z32957)]) (rest := []) 0 (xw_at (N := 129) (i := 0) (by decide) rfl) vc_X11 (s_least l D cy ad G V32959 J Rr hI32959 hJ hR z33009 ⟨by omega, by omega⟩ 3 ⟨by decide, by decide⟩ (x1 - z24689 - z31973 - z32957) ⟨by omega, by omega⟩) (l1 := []) (l2 := []) (List.append_nil _).symm (w2 := fun _ => XW cy ad V32959 J Rr) (fun _ => List.append_nil _) rfl wm_yX11_least wn_X11 wl_X11_368 wi_yX11_least we_yX11_least hd_yX11_least rfl ⟨Nat.le_of_ble_eq_true rfl, Nat.le_of_ble_eq_true rfl⟩ (Nat.le_of_ble_eq_true rfl) ⟨Nat.le_of_ble_eq_true rfl, Nat.le_of_ble_eq_true rfl⟩ dX11_spreadBest_75 (fun z33010 u33010 bz33010 h33010 => ?_)
        have hFc33010 := h33010
        replace hF := calR_i hF hFc33010
        refine x_istore C.1 (lv' := [(7, vI z33010), (6, vI (x1 - z24689 - z31973 - z32957)), (5, vI z32957), (4, vI z31973), (3, vI z24689), (2, vI z32958), (0, .ref (ad 0)), (1, vI x1)]) dX11_spreadBest_78 (by decide) rfl ?_
        refine x_iload C.1 dX11_spreadBest_80 0 rfl ?_
        refine x_iload_n C.1 dX11_spreadBest_82 5 rfl ?_
        obtain ⟨jf33016, hjf33016, hF⟩ := jn_ex hF
        refine x_join (I := fun x : Int × (Nat → Nat → Int) => match x with | (z33015, V33016) => (-1 ≤ z33015 ∧ z33015 ≤ 2147483647) ∧ XI G V33016 ∧ FB (fun i k : Nat => (127 ≤ i ∧ i ≤ 127)) V V33016 ∧ Imp (jf33016 z33015 V33016) (f_s_spreadBest x1 V J Rr)) (wsf := fun x : Int × (Nat → Nat → Int) => match x with | (z33015, V33016) => XW cy ad V33016 J Rr) (lvf := fun x : Int × (Nat → Nat → Int) => match x with | (z33015, V33016) => [(7, vI z33010), (6, vI (x1 - z24689 - z31973 - z32957)), (5, vI z32957), (4, vI z31973), (3, vI z24689), (2, vI z33015), (0, .ref (ad 0)), (1, vI x1)]) (stf := fun x : Int × (Nat → Nat → Int) => match x with | (z33015, V33016) => []) 120 (fun x hI33016x => ?_) (fun jn33016 => ?_)
        · obtain ⟨z33015, V33016⟩ := x
          obtain ⟨bz33015, hI33016, hB33016, hF⟩ := hI33016x
          try dsimp only
          replace hF := hF.to (jn_s2 hjf33016)
          refine x_iinc C.1 (v := z32957 + 1) (lv' := [(5, vI (z32957 + 1)), (7, vI z33010), (6, vI (x1 - z24689 - z31973 - z32957)), (4, vI z31973), (3, vI z24689), (2, vI z33015), (0, .ref (ad 0)), (1, vI x1)]) (by omega) dX11_spreadBest_120 2 rfl (by decide) rfl ?_
          refine x_goto C.1 (tgt := 23) dX11_spreadBest_123 (by decide) ?_
          refine x_lv [(5, vI (z32957 + 1)), (4, vI z31973), (3, vI z24689), (2, vI z33015), (0, .ref (ad 0)), (1, vI x1)] [0, 3, 4, 5, 6, 7] rfl ?_
          have hmu32959 : (26 - (z32957 + 1)).toNat < (26 - z32957).toNat := (by omega)
          exact ih32959 (z32957 + 1, z33015, V33016) ⟨⟨by omega, by omega⟩, ⟨by omega, by omega⟩, hI33016, hB33016, ⟨nf32959, Nat.lt_of_lt_of_le hmu32959 (Nat.le_of_lt_succ hn32959), hF⟩⟩ hmu32959
        · refine x_icmp_le C.1 (tgt := 120) dX11_spreadBest_83 (by decide) (by omega) (by omega) (fun hc33017 => ?_) (fun hc33017 => ?_)
          · replace hF := hF.to (if_pos hc33017)
            exact jn33016 (z32958, V32959) ⟨⟨by omega, by omega⟩, hI32959, hB32959, hF⟩
          · replace hF := hF.to (if_neg hc33017)
            refine x_iload C.1 dX11_spreadBest_86 0 rfl ?_
            refine x_istore_n C.1 (lv' := [(2, vI z33010), (7, vI z33010), (6, vI (x1 - z24689 - z31973 - z32957)), (5, vI z32957), (4, vI z31973), (3, vI z24689), (0, .ref (ad 0)), (1, vI x1)]) dX11_spreadBest_88 (by decide) rfl ?_
            refine x_aload_n C.1 dX11_spreadBest_89 6 rfl ?_
            refine x_getA C (N := 129) (i := 0) (by decide) rfl vc_X11 wx_X11 10 (by decide) wf_X11_63 (a := 127) rfl dX11_spreadBest_90 ?_
            refine x_iconst C.1 (n := 0) dX11_spreadBest_93 ?_
            refine x_iload_n C.1 dX11_spreadBest_94 5 rfl ?_
            refine x_iast C (N := 129) (i := 127) (q := 0) (a := z24689) (by decide) rfl (by decide) (by decide) dX11_spreadBest_95 ?_
            rw [show (0 : Int).toNat = 0 from rfl]
            refine x_gV ?_
            intro V33018 hV33018
            have hI33018 : XI G V33018 := hI32959.up hV33018 rfl (by omega) rfl
            have hB33018 := hB32959.up hV33018 (⟨by decide, by decide⟩)
            replace hF := hF.to (rdb_e (z := V33018) hV33018.symm)
            refine x_aload_n C.1 dX11_spreadBest_96 6 rfl ?_
            refine x_getA C (N := 129) (i := 0) (by decide) rfl vc_X11 wx_X11 10 (by decide) wf_X11_63 (a := 127) rfl dX11_spreadBest_97 ?_
            refine x_iconst C.1 (n := 1) dX11_spreadBest_100 ?_
            refine x_iload C.1 dX11_spreadBest_101 4 rfl ?_
            refine x_iast C (N := 129) (i := 127) (q := 1) (a := z31973) (by decide) rfl (by decide) (by decide) dX11_spreadBest_103 ?_
            rw [show (1 : Int).toNat = 1 from rfl]
            refine x_gV ?_
            intro V33019 hV33019
            have hI33019 : XI G V33019 := hI33018.up hV33019 rfl (by omega) rfl
            have hB33019 := hB33018.up hV33019 (⟨by decide, by decide⟩)
            replace hF := hF.to (rdb_e (z := V33019) hV33019.symm)
            refine x_aload_n C.1 dX11_spreadBest_104 6 rfl ?_
            refine x_getA C (N := 129) (i := 0) (by decide) rfl vc_X11 wx_X11 10 (by decide) wf_X11_63 (a := 127) rfl dX11_spreadBest_105 ?_
            refine x_iconst C.1 (n := 2) dX11_spreadBest_108 ?_
            refine x_iload C.1 dX11_spreadBest_109 3 rfl ?_
            refine x_iast C (N := 129) (i := 127) (q := 2) (a := z32957) (by decide) rfl (by decide) (by decide) dX11_spreadBest_111 ?_
            rw [show (2 : Int).toNat = 2 from rfl]
            refine x_gV ?_
            intro V33020 hV33020
            have hI33020 : XI G V33020 := hI33019.up hV33020 rfl (by omega) rfl
            have hB33020 := hB33019.up hV33020 (⟨by decide, by decide⟩)
            replace hF := hF.to (rdb_e (z := V33020) hV33020.symm)
            refine x_aload_n C.1 dX11_spreadBest_112 6 rfl ?_
            refine x_getA C (N := 129) (i := 0) (by decide) rfl vc_X11 wx_X11 10 (by decide) wf_X11_63 (a := 127) rfl dX11_spreadBest_113 ?_
            refine x_iconst C.1 (n := 3) dX11_spreadBest_116 ?_
            refine x_iload C.1 dX11_spreadBest_117 2 rfl ?_
            refine x_iast C (N := 129) (i := 127) (q := 3) (a := x1 - z24689 - z31973 - z32957) (by decide) rfl (by decide) (by decide) dX11_spreadBest_119 ?_
            rw [show (3 : Int).toNat = 3 from rfl]
            refine x_gV ?_
            intro V33021 hV33021
            have hI33021 : XI G V33021 := hI33020.up hV33021 rfl (by omega) rfl
            have hB33021 := hB33020.up hV33021 (⟨by decide, by decide⟩)
            replace hF := hF.to (rdb_e (z := V33021) hV33021.symm)
            refine x_lv [(7, vI z33010), (6, vI (x1 - z24689 - z31973 - z32957)), (5, vI z32957), (4, vI z31973), (3, vI z24689), (2, vI z33010), (0, .ref (ad 0)), (1, vI x1)] [1, 2, 3, 4, 5, 0, 6, 7] rfl ?_
            exact jn33016 (z33010, V33021) ⟨⟨by omega, by omega⟩, hI33021, hB33021, hF⟩
theorem dX11_theOne_0 : decode cX11_theOne 0 = .ok (.bipush (-2), 2) := by decide +kernel
theorem dX11_theOne_2 : decode cX11_theOne 2 = .ok (.istore_n 1, 1) := by decide +kernel
theorem dX11_theOne_3 : decode cX11_theOne 3 = .ok (.iconst 0, 1) := by decide +kernel
theorem dX11_theOne_4 : decode cX11_theOne 4 = .ok (.istore_n 2, 1) := by decide +kernel
theorem dX11_theOne_5 : decode cX11_theOne 5 = .ok (.iconst 0, 1) := by decide +kernel
theorem dX11_theOne_6 : decode cX11_theOne 6 = .ok (.istore_n 3, 1) := by decide +kernel
theorem dX11_theOne_7 : decode cX11_theOne 7 = .ok (.iload_n 3, 1) := by decide +kernel
theorem dX11_theOne_8 : decode cX11_theOne 8 = .ok (.bipush 8, 2) := by decide +kernel
theorem dX11_theOne_10 : decode cX11_theOne 10 = .ok (.if_icmp .ge 40, 3) := by decide +kernel
theorem dX11_theOne_13 : decode cX11_theOne 13 = .ok (.aload_n 0, 1) := by decide +kernel
theorem dX11_theOne_14 : decode cX11_theOne 14 = .ok (.getfield 10, 3) := by decide +kernel
theorem dX11_theOne_17 : decode cX11_theOne 17 = .ok (.getfield 146, 3) := by decide +kernel
theorem dX11_theOne_20 : decode cX11_theOne 20 = .ok (.iload_n 3, 1) := by decide +kernel
theorem dX11_theOne_21 : decode cX11_theOne 21 = .ok (.aaload, 1) := by decide +kernel
theorem dX11_theOne_22 : decode cX11_theOne 22 = .ok (.getfield 150, 3) := by decide +kernel
theorem dX11_theOne_25 : decode cX11_theOne 25 = .ok (.iload_n 2, 1) := by decide +kernel
theorem dX11_theOne_26 : decode cX11_theOne 26 = .ok (.if_icmp .le 18, 3) := by decide +kernel
theorem dX11_theOne_29 : decode cX11_theOne 29 = .ok (.aload_n 0, 1) := by decide +kernel
theorem dX11_theOne_30 : decode cX11_theOne 30 = .ok (.getfield 10, 3) := by decide +kernel
theorem dX11_theOne_33 : decode cX11_theOne 33 = .ok (.getfield 146, 3) := by decide +kernel
theorem dX11_theOne_36 : decode cX11_theOne 36 = .ok (.iload_n 3, 1) := by decide +kernel
theorem dX11_theOne_37 : decode cX11_theOne 37 = .ok (.aaload, 1) := by decide +kernel
theorem dX11_theOne_38 : decode cX11_theOne 38 = .ok (.getfield 150, 3) := by decide +kernel
theorem dX11_theOne_41 : decode cX11_theOne 41 = .ok (.istore_n 2, 1) := by decide +kernel
theorem dX11_theOne_42 : decode cX11_theOne 42 = .ok (.iload_n 3, 1) := by decide +kernel
theorem dX11_theOne_43 : decode cX11_theOne 43 = .ok (.istore_n 1, 1) := by decide +kernel
theorem dX11_theOne_44 : decode cX11_theOne 44 = .ok (.iinc 3 1, 3) := by decide +kernel
theorem dX11_theOne_47 : decode cX11_theOne 47 = .ok (.goto (-40), 3) := by decide +kernel
theorem dX11_theOne_50 : decode cX11_theOne 50 = .ok (.iload_n 1, 1) := by decide +kernel
theorem dX11_theOne_51 : decode cX11_theOne 51 = .ok (.ireturn, 1) := by decide +kernel
set_option maxRecDepth 100000 in
def f_s_theOne (V : Nat → Nat → Int) (J : Nat → Nat → Int) (Rr : Nat → Nat → Nat) : (Int) → Prop :=
  lop3 (10) (fun rc57 (z54 : Int) (z55 : Int) (z56 : Int) => (if 8 ≤ z54 then rtn z56 else rdb (1 + 11 + 1 * z54.toNat) fun c66 => rdb (V c66 3) fun z67 => jnk (fun (z68 : Int) (z69 : Int) => rc57 (z54 + 1) z68 z69) fun jf70 => (if z67 ≤ z55 then jf70 z55 z56 else jf70 z67 z54))) 0 0 ((-2))
set_option maxHeartbeats 8000000 in
set_option maxRecDepth 100000 in
theorem s_theOne (l : Launch) (D : va_G) (cy : Nat → ClassId) (ad : Nat → Nat) (G : Nat → Nat → Int) (V J : Nat → Nat → Int) (Rr : Nat → Nat → Nat) (hI : XI G V) (hJ : VJ J) (hR : XR Rr)  : xMi l D (xTY cy) yX11_theOne cX11_theOne 4 (some .int) 0 0 0 0 [.ref (ad 0)] (XW cy ad V J Rr) (fun _ : Unit => XW cy ad V J Rr) (fun a (u : Unit) => (f_s_theOne V J Rr) a) := by
  refine xMi.mk (lv0 := [(0, .ref (ad 0))]) (by decide) rfl (Nat.le_of_ble_eq_true rfl) (fun p e s m below meth c A C hr hnm hAe => ?_)
  have C : xC2 p s m _ meth c D A s.heap 4 cX11_theOne RX11 (xTY cy) := C
  have hF := Imp.of_eq (f_s_theOne.eq_def V J Rr)
  refine x_bipush C.1 (n := -2) dX11_theOne_0 ?_
  refine x_istore_n C.1 (lv' := [(1, vI (-2)), (0, .ref (ad 0))]) dX11_theOne_2 (by decide) rfl ?_
  refine x_iconst C.1 (n := 0) dX11_theOne_3 ?_
  refine x_istore_n C.1 (lv' := [(2, vI 0), (1, vI (-2)), (0, .ref (ad 0))]) dX11_theOne_4 (by decide) rfl ?_
  refine x_iconst C.1 (n := 0) dX11_theOne_5 ?_
  refine x_istore_n C.1 (lv' := [(3, vI 0), (2, vI 0), (1, vI (-2)), (0, .ref (ad 0))]) dX11_theOne_6 (by decide) rfl ?_
  obtain ⟨bd57, hbd57, hF⟩ := lop3_ex hF
  refine x_loop (I := fun x : Int × Int × Int => match x with | (z54, z55, z56) => (0 ≤ z54 ∧ z54 ≤ 8) ∧ (0 ≤ z55 ∧ z55 ≤ 2147483647) ∧ (-2 ≤ z56 ∧ z56 ≤ 2147483647) ∧ (∃ nf : Nat, (9 - z54).toNat < nf ∧ Imp (lop3 nf bd57 z54 z55 z56) (f_s_theOne V J Rr))) (μ := fun x : Int × Int × Int => match x with | (z54, z55, z56) => (9 - z54).toNat) (wsf := fun x : Int × Int × Int => match x with | (z54, z55, z56) => XW cy ad V J Rr) (lvf := fun x : Int × Int × Int => match x with | (z54, z55, z56) => [(3, vI z54), (2, vI z55), (1, vI z56), (0, .ref (ad 0))]) (fun x hI57x ih57 => ?_) (0, 0, (-2)) ⟨⟨by decide, by decide⟩, ⟨by decide, by decide⟩, ⟨by decide, by decide⟩, ⟨_, (by omega), hF⟩⟩ rfl rfl
  obtain ⟨z54, z55, z56⟩ := x
  obtain ⟨bz54, bz55, bz56, nf57, hn57, hF⟩ := hI57x
  try dsimp only
  obtain ⟨nf57, rfl⟩ : ∃ mm, nf57 = mm + 1 := ⟨nf57 - 1, (Nat.succ_pred_eq_of_pos (Nat.lt_of_le_of_lt (Nat.zero_le _) hn57)).symm⟩
  replace hF := hF.to (lop3_s hbd57)
  refine x_iload_n C.1 dX11_theOne_7 0 rfl ?_
  refine x_bipush C.1 (n := 8) dX11_theOne_8 ?_
  refine x_icmp_ge C.1 (tgt := 50) dX11_theOne_10 (by decide) (by omega) (by decide) (fun hc65 => ?_) (fun hc65 => ?_)
  · replace hF := hF.to (if_pos hc65)
    refine x_iload_n C.1 dX11_theOne_50 2 rfl ?_
    exact x_iret (S := Unit) (post := (fun a (u : Unit) => (f_s_theOne V J Rr) a)) (w1 := (fun _ : Unit => XW cy ad V J Rr)) (a := z56) C hr rfl dX11_theOne_51 (by omega) () rfl (hF _ rfl)
  · replace hF := hF.to (if_neg hc65)
    refine x_aload_n C.1 dX11_theOne_13 3 rfl ?_
    refine x_getA C (N := 129) (i := 0) (by decide) rfl vc_X11 wx_X11 0 (by decide) wf_X11_10 (a := 1) rfl dX11_theOne_14 ?_
    refine x_getA C (N := 129) (i := 1) (by omega) (xd_L (Or.inl rfl)) vc_X3 wx_X3 1 (by decide) wf_X11_146 (a := 3) rfl dX11_theOne_17 ?_
    refine x_iload_n C.1 dX11_theOne_20 0 rfl ?_
    obtain ⟨c66, ec66, hc66⟩ : ∃ cx : Nat, 1 + 11 + 1 * z54.toNat = cx ∧ isPe cx := ⟨_, rfl, isPe_L (Or.inl rfl) (by omega)⟩
    replace hF := hF.to (rdb_e (z := c66) ec66)
    refine x_aldS C (N := 129) (i := 3) (q := z54) (t := 5) rfl (by omega) (xd_Lb (Or.inl rfl)) (by omega) (by decide) dX11_theOne_21 (a := c66) ec66 ?_
    obtain ⟨z67, ez67, bz67⟩ := hI.rd c66 3 (x := -2147483648) (y := 2147483647) (rg_E hc66 3)
    replace hF := hF.to (rdb_e (z := z67) ez67)
    refine x_getI C (N := 129) (i := c66) hc66.1 hc66.2 vc_X4 wx_X4 3 (by decide) wf_X11_150 rfl dX11_theOne_22 (a := z67) ez67 ?_
    refine x_iload_n C.1 dX11_theOne_25 1 rfl ?_
    obtain ⟨jf70, hjf70, hF⟩ := jn_ex hF
    refine x_join (I := fun x : Int × Int => match x with | (z68, z69) => (0 ≤ z68 ∧ z68 ≤ 2147483647) ∧ (-2 ≤ z69 ∧ z69 ≤ 2147483647) ∧ Imp (jf70 z68 z69) (f_s_theOne V J Rr)) (wsf := fun x : Int × Int => match x with | (z68, z69) => XW cy ad V J Rr) (lvf := fun x : Int × Int => match x with | (z68, z69) => [(3, vI z54), (2, vI z68), (1, vI z69), (0, .ref (ad 0))]) (stf := fun x : Int × Int => match x with | (z68, z69) => []) 44 (fun x hI70x => ?_) (fun jn70 => ?_)
    · obtain ⟨z68, z69⟩ := x
      obtain ⟨bz68, bz69, hF⟩ := hI70x
      try dsimp only
      replace hF := hF.to (jn_s2 hjf70)
      refine x_iinc C.1 (v := z54 + 1) (lv' := [(3, vI (z54 + 1)), (2, vI z68), (1, vI z69), (0, .ref (ad 0))]) (by omega) dX11_theOne_44 0 rfl (by decide) rfl ?_
      refine x_goto C.1 (tgt := 7) dX11_theOne_47 (by decide) ?_
      have hmu57 : (9 - (z54 + 1)).toNat < (9 - z54).toNat := (by omega)
      exact ih57 (z54 + 1, z68, z69) ⟨⟨by omega, by omega⟩, ⟨by omega, by omega⟩, ⟨by omega, by omega⟩, ⟨nf57, Nat.lt_of_lt_of_le hmu57 (Nat.le_of_lt_succ hn57), hF⟩⟩ hmu57
    · refine x_icmp_le C.1 (tgt := 44) dX11_theOne_26 (by decide) (by omega) (by omega) (fun hc71 => ?_) (fun hc71 => ?_)
      · replace hF := hF.to (if_pos hc71)
        exact jn70 (z55, z56) ⟨⟨by omega, by omega⟩, ⟨by omega, by omega⟩, hF⟩
      · replace hF := hF.to (if_neg hc71)
        refine x_aload_n C.1 dX11_theOne_29 3 rfl ?_
        refine x_getA C (N := 129) (i := 0) (by decide) rfl vc_X11 wx_X11 0 (by decide) wf_X11_10 (a := 1) rfl dX11_theOne_30 ?_
        refine x_getA C (N := 129) (i := 1) (by omega) (xd_L (Or.inl rfl)) vc_X3 wx_X3 1 (by decide) wf_X11_146 (a := 3) rfl dX11_theOne_33 ?_
        refine x_iload_n C.1 dX11_theOne_36 0 rfl ?_
        refine x_aldS C (N := 129) (i := 3) (q := z54) (t := 5) rfl (by omega) (xd_Lb (Or.inl rfl)) (by omega) (by decide) dX11_theOne_37 (a := c66) ec66 ?_
        refine x_getI C (N := 129) (i := c66) hc66.1 hc66.2 vc_X4 wx_X4 3 (by decide) wf_X11_150 rfl dX11_theOne_38 (a := z67) ez67 ?_
        refine x_istore_n C.1 (lv' := [(2, vI z67), (3, vI z54), (1, vI z56), (0, .ref (ad 0))]) dX11_theOne_41 (by decide) rfl ?_
        refine x_iload_n C.1 dX11_theOne_42 1 rfl ?_
        refine x_istore_n C.1 (lv' := [(1, vI z54), (2, vI z67), (3, vI z54), (0, .ref (ad 0))]) dX11_theOne_43 (by decide) rfl ?_
        refine x_lv [(3, vI z54), (2, vI z67), (1, vI z54), (0, .ref (ad 0))] [2, 1, 0, 3] rfl ?_
        exact jn70 (z67, z54) ⟨⟨by omega, by omega⟩, ⟨by omega, by omega⟩, hF⟩
theorem dX11_worthOf_0 : decode cX11_worthOf 0 = .ok (.iload_n 1, 1) := by decide +kernel
theorem dX11_worthOf_1 : decode cX11_worthOf 1 = .ok (.ifCond .ne 5, 3) := by decide +kernel
theorem dX11_worthOf_4 : decode cX11_worthOf 4 = .ok (.iconst 0, 1) := by decide +kernel
theorem dX11_worthOf_5 : decode cX11_worthOf 5 = .ok (.ireturn, 1) := by decide +kernel
theorem dX11_worthOf_6 : decode cX11_worthOf 6 = .ok (.aload_n 0, 1) := by decide +kernel
theorem dX11_worthOf_7 : decode cX11_worthOf 7 = .ok (.getfield 34, 3) := by decide +kernel
theorem dX11_worthOf_10 : decode cX11_worthOf 10 = .ok (.getfield 379, 3) := by decide +kernel
theorem dX11_worthOf_13 : decode cX11_worthOf 13 = .ok (.iload_n 2, 1) := by decide +kernel
theorem dX11_worthOf_14 : decode cX11_worthOf 14 = .ok (.iaload, 1) := by decide +kernel
theorem dX11_worthOf_15 : decode cX11_worthOf 15 = .ok (.iload_n 1, 1) := by decide +kernel
theorem dX11_worthOf_16 : decode cX11_worthOf 16 = .ok (.iload_n 2, 1) := by decide +kernel
theorem dX11_worthOf_17 : decode cX11_worthOf 17 = .ok (.ishr, 1) := by decide +kernel
theorem dX11_worthOf_18 : decode cX11_worthOf 18 = .ok (.iconst 1, 1) := by decide +kernel
theorem dX11_worthOf_19 : decode cX11_worthOf 19 = .ok (.iand, 1) := by decide +kernel
theorem dX11_worthOf_20 : decode cX11_worthOf 20 = .ok (.iconst 1, 1) := by decide +kernel
theorem dX11_worthOf_21 : decode cX11_worthOf 21 = .ok (.if_icmp .ne 15, 3) := by decide +kernel
theorem dX11_worthOf_24 : decode cX11_worthOf 24 = .ok (.aload_n 0, 1) := by decide +kernel
theorem dX11_worthOf_25 : decode cX11_worthOf 25 = .ok (.getfield 34, 3) := by decide +kernel
theorem dX11_worthOf_28 : decode cX11_worthOf 28 = .ok (.getfield 382, 3) := by decide +kernel
theorem dX11_worthOf_31 : decode cX11_worthOf 31 = .ok (.iload_n 2, 1) := by decide +kernel
theorem dX11_worthOf_32 : decode cX11_worthOf 32 = .ok (.iaload, 1) := by decide +kernel
theorem dX11_worthOf_33 : decode cX11_worthOf 33 = .ok (.goto 4, 3) := by decide +kernel
theorem dX11_worthOf_36 : decode cX11_worthOf 36 = .ok (.iconst 0, 1) := by decide +kernel
theorem dX11_worthOf_37 : decode cX11_worthOf 37 = .ok (.isub, 1) := by decide +kernel
theorem dX11_worthOf_38 : decode cX11_worthOf 38 = .ok (.ireturn, 1) := by decide +kernel
set_option maxRecDepth 100000 in
def f_s_worthOf (x1 : Int) (x2 : Int) (V : Nat → Nat → Int) (J : Nat → Nat → Int) (Rr : Nat → Nat → Nat) : (Int) → Prop :=
  (if ¬ x1 = 0 then rdb (V 68 x2.toNat) fun z2 => rdb (iShr x1 x2) fun z3 => rdb (iAnd z3 1) fun z4 => fct (0 ≤ z4 ∧ z4 ≤ 1) <| (if ¬ z4 = 1 then rtn z2 else rdb (V 67 x2.toNat) fun z6 => rdb (wr (z2 - z6)) fun z7 => rtn z7) else rtn 0)
set_option maxHeartbeats 8000000 in
set_option maxRecDepth 100000 in
theorem s_worthOf (l : Launch) (D : va_G) (cy : Nat → ClassId) (ad : Nat → Nat) (G : Nat → Nat → Int) (V J : Nat → Nat → Int) (Rr : Nat → Nat → Nat) (hI : XI G V) (hJ : VJ J) (hR : XR Rr) (x1 : Int) (bx1 : -2147483648 ≤ x1 ∧ x1 ≤ 2147483647) (x2 : Int) (bx2 : 0 ≤ x2 ∧ x2 ≤ 5) : xMi l D (xTY cy) yX11_worthOf cX11_worthOf 3 (some .int) 0 0 0 0 [.ref (ad 0), vI x1, vI x2] (XW cy ad V J Rr) (fun _ : Unit => XW cy ad V J Rr) (fun a (u : Unit) => (f_s_worthOf x1 x2 V J Rr) a) := by
  refine xMi.mk (lv0 := [(0, .ref (ad 0)), (1, vI x1), (2, vI x2)]) (by decide) rfl (Nat.le_of_ble_eq_true rfl) (fun p e s m below meth c A C hr hnm hAe => ?_)
  have C : xC2 p s m _ meth c D A s.heap 3 cX11_worthOf RX11 (xTY cy) := C
  have hF := Imp.of_eq (f_s_worthOf.eq_def x1 x2 V J Rr)
  refine x_iload_n C.1 dX11_worthOf_0 1 rfl ?_
  refine x_if_ne C.1 (tgt := 6) dX11_worthOf_1 (by decide) (by omega) (fun hc1 => ?_) (fun hc1 => ?_)
  · replace hF := hF.to (if_pos hc1)
    refine x_aload_n C.1 dX11_worthOf_6 0 rfl ?_
    refine x_getA C (N := 129) (i := 0) (by decide) rfl vc_X11 wx_X11 5 (by decide) wf_X11_34 (a := 60) rfl dX11_worthOf_7 ?_
    refine x_getA C (N := 129) (i := 60) (by decide) rfl vc_X1 wx_X1 3 (by decide) wf_X11_379 (a := 68) rfl dX11_worthOf_10 ?_
    refine x_iload_n C.1 dX11_worthOf_13 2 rfl ?_
    obtain ⟨z2, ez2, bz2⟩ := hI.rd 68 x2.toNat (x := -2147483648) (y := 2147483647) rfl
    replace hF := hF.to (rdb_e (z := z2) ez2)
    refine x_iald C (N := 129) (i := 68) (q := x2) (by decide) rfl (by omega) (by decide) dX11_worthOf_14 (a := z2) ez2 ?_
    refine x_iload_n C.1 dX11_worthOf_15 1 rfl ?_
    refine x_iload_n C.1 dX11_worthOf_16 2 rfl ?_
    obtain ⟨z3, hz3, bz3⟩ : ∃ z : Int, iShr x1 x2 = z ∧ (-2147483648 ≤ z ∧ z ≤ 2147483647) := ⟨_, rfl, xi_r _⟩
    replace hF := hF.to (rdb_e (z := z3) hz3)
    refine x_ishr C.1 (v := z3) hz3 dX11_worthOf_17 ?_
    refine x_iconst C.1 (n := 1) dX11_worthOf_18 ?_
    obtain ⟨z4, hz4, bz4⟩ : ∃ z : Int, iAnd z3 1 = z ∧ (0 ≤ z ∧ z ≤ 1) := ⟨_, rfl, iAnd_leB _ (by decide)⟩
    replace hF := hF.to (rdb_e (z := z4) hz4)
    replace hF := hF.fc bz4
    refine x_iand C.1 (v := z4) hz4 dX11_worthOf_19 ?_
    refine x_iconst C.1 (n := 1) dX11_worthOf_20 ?_
    refine x_icmp_ne C.1 (tgt := 36) dX11_worthOf_21 (by decide) (by omega) (by decide) (fun hc5 => ?_) (fun hc5 => ?_)
    · replace hF := hF.to (if_pos hc5)
      refine x_iconst C.1 (n := 0) dX11_worthOf_36 ?_
      refine x_isub C.1 (v := z2) (by omega) dX11_worthOf_37 ?_
      exact x_iret (S := Unit) (post := (fun a (u : Unit) => (f_s_worthOf x1 x2 V J Rr) a)) (w1 := (fun _ : Unit => XW cy ad V J Rr)) (a := z2) C hr rfl dX11_worthOf_38 (by omega) () rfl (hF _ rfl)
    · replace hF := hF.to (if_neg (fun hh => hh hc5))
      refine x_aload_n C.1 dX11_worthOf_24 0 rfl ?_
      refine x_getA C (N := 129) (i := 0) (by decide) rfl vc_X11 wx_X11 5 (by decide) wf_X11_34 (a := 60) rfl dX11_worthOf_25 ?_
      refine x_getA C (N := 129) (i := 60) (by decide) rfl vc_X1 wx_X1 2 (by decide) wf_X11_382 (a := 67) rfl dX11_worthOf_28 ?_
      refine x_iload_n C.1 dX11_worthOf_31 2 rfl ?_
      obtain ⟨z6, ez6, bz6⟩ := hI.rd 67 x2.toNat (x := -2147483648) (y := 2147483647) rfl
      replace hF := hF.to (rdb_e (z := z6) ez6)
      refine x_iald C (N := 129) (i := 67) (q := x2) (by decide) rfl (by omega) (by decide) dX11_worthOf_32 (a := z6) ez6 ?_
      refine x_goto C.1 (tgt := 37) dX11_worthOf_33 (by decide) ?_
      refine x_isub C.1 (v := z2 - z6) (by omega) dX11_worthOf_37 ?_
      refine x_wrapg ?_
      intro z7 bz7 ew7
      replace hF := hF.to (rdb_e (z := z7) ew7.symm)
      exact x_iret (S := Unit) (post := (fun a (u : Unit) => (f_s_worthOf x1 x2 V J Rr) a)) (w1 := (fun _ : Unit => XW cy ad V J Rr)) (a := z7) C hr rfl dX11_worthOf_38 (by omega) () rfl (hF _ rfl)
  · replace hF := hF.to (if_neg (fun hh => hh hc1))
    refine x_iconst C.1 (n := 0) dX11_worthOf_4 ?_
    exact x_iret (S := Unit) (post := (fun a (u : Unit) => (f_s_worthOf x1 x2 V J Rr) a)) (w1 := (fun _ : Unit => XW cy ad V J Rr)) (a := 0) C hr rfl dX11_worthOf_5 (by decide) () rfl (hF _ rfl)
theorem hd_yX11_worthOf : yX11_worthOf.cls ≠ "java/lang/invoke/MethodHandle" ∧ yX11_worthOf.cls ≠ "java/lang/invoke/VarHandle" ∧ (parseMethodDescriptor yX11_worthOf.desc).map (fun d => d.parameters.length) = some 2 := by decide +kernel
theorem dX11_nobodyGains_0 : decode cX11_nobodyGains 0 = .ok (.iconst 0, 1) := by decide +kernel
theorem dX11_nobodyGains_1 : decode cX11_nobodyGains 1 = .ok (.istore_n 3, 1) := by decide +kernel
theorem dX11_nobodyGains_2 : decode cX11_nobodyGains 2 = .ok (.iload_n 3, 1) := by decide +kernel
theorem dX11_nobodyGains_3 : decode cX11_nobodyGains 3 = .ok (.iload_n 2, 1) := by decide +kernel
theorem dX11_nobodyGains_4 : decode cX11_nobodyGains 4 = .ok (.if_icmp .ge 30, 3) := by decide +kernel
theorem dX11_nobodyGains_7 : decode cX11_nobodyGains 7 = .ok (.aload_n 0, 1) := by decide +kernel
theorem dX11_nobodyGains_8 : decode cX11_nobodyGains 8 = .ok (.iload_n 1, 1) := by decide +kernel
theorem dX11_nobodyGains_9 : decode cX11_nobodyGains 9 = .ok (.iconst 1, 1) := by decide +kernel
theorem dX11_nobodyGains_10 : decode cX11_nobodyGains 10 = .ok (.iload_n 3, 1) := by decide +kernel
theorem dX11_nobodyGains_11 : decode cX11_nobodyGains 11 = .ok (.ishl, 1) := by decide +kernel
theorem dX11_nobodyGains_12 : decode cX11_nobodyGains 12 = .ok (.ixor, 1) := by decide +kernel
theorem dX11_nobodyGains_13 : decode cX11_nobodyGains 13 = .ok (.iload_n 3, 1) := by decide +kernel
theorem dX11_nobodyGains_14 : decode cX11_nobodyGains 14 = .ok (.invokevirtual 376, 3) := by decide +kernel
theorem dX11_nobodyGains_17 : decode cX11_nobodyGains 17 = .ok (.aload_n 0, 1) := by decide +kernel
theorem dX11_nobodyGains_18 : decode cX11_nobodyGains 18 = .ok (.iload_n 1, 1) := by decide +kernel
theorem dX11_nobodyGains_19 : decode cX11_nobodyGains 19 = .ok (.iload_n 3, 1) := by decide +kernel
theorem dX11_nobodyGains_20 : decode cX11_nobodyGains 20 = .ok (.invokevirtual 376, 3) := by decide +kernel
theorem dX11_nobodyGains_23 : decode cX11_nobodyGains 23 = .ok (.if_icmp .le 5, 3) := by decide +kernel
theorem dX11_nobodyGains_26 : decode cX11_nobodyGains 26 = .ok (.iconst 0, 1) := by decide +kernel
theorem dX11_nobodyGains_27 : decode cX11_nobodyGains 27 = .ok (.ireturn, 1) := by decide +kernel
theorem dX11_nobodyGains_28 : decode cX11_nobodyGains 28 = .ok (.iinc 3 1, 3) := by decide +kernel
theorem dX11_nobodyGains_31 : decode cX11_nobodyGains 31 = .ok (.goto (-29), 3) := by decide +kernel
theorem dX11_nobodyGains_34 : decode cX11_nobodyGains 34 = .ok (.iconst 1, 1) := by decide +kernel
theorem dX11_nobodyGains_35 : decode cX11_nobodyGains 35 = .ok (.ireturn, 1) := by decide +kernel
set_option maxRecDepth 100000 in
def f_s_nobodyGains (x1 : Int) (x2 : Int) (V : Nat → Nat → Int) (J : Nat → Nat → Int) (Rr : Nat → Nat → Nat) : (Int) → Prop :=
  lop1 (8) (fun rc42 (z41 : Int) => (if x2 ≤ z41 then rtn 1 else rdb (iShl 1 z41) fun z50 => rdb (iXor x1 z50) fun z51 => calR (f_s_worthOf z51 z41 V J Rr) fun z52 => calR (f_s_worthOf x1 z41 V J Rr) fun z53 => (if z52 ≤ z53 then rc42 (z41 + 1) else rtn 0))) 0
set_option maxHeartbeats 8000000 in
set_option maxRecDepth 100000 in
theorem s_nobodyGains (l : Launch) (D : va_G) (cy : Nat → ClassId) (ad : Nat → Nat) (G : Nat → Nat → Int) (V J : Nat → Nat → Int) (Rr : Nat → Nat → Nat) (hI : XI G V) (hJ : VJ J) (hR : XR Rr) (x1 : Int) (bx1 : -2147483648 ≤ x1 ∧ x1 ≤ 2147483647) (x2 : Int) (bx2 : 0 ≤ x2 ∧ x2 ≤ 6) : xMi l D (xTY cy) yX11_nobodyGains cX11_nobodyGains 4 (some .boolean) 1 22 0 0 [.ref (ad 0), vI x1, vI x2] (XW cy ad V J Rr) (fun _ : Unit => XW cy ad V J Rr) (fun a (u : Unit) => (0 ≤ a ∧ a ≤ 1) ∧ (f_s_nobodyGains x1 x2 V J Rr) a) := by
  refine xMi.mk (lv0 := [(0, .ref (ad 0)), (1, vI x1), (2, vI x2)]) (by decide) rfl (Nat.le_of_ble_eq_true rfl) (fun p e s m below meth c A C hr hnm hAe => ?_)
  have C : xC2 p s m _ meth c D A s.heap 4 cX11_nobodyGains RX11 (xTY cy) := C
  have hF := Imp.of_eq (f_s_nobodyGains.eq_def x1 x2 V J Rr)
  refine x_iconst C.1 (n := 0) dX11_nobodyGains_0 ?_
  refine x_istore_n C.1 (lv' := [(3, vI 0), (0, .ref (ad 0)), (1, vI x1), (2, vI x2)]) dX11_nobodyGains_1 (by decide) rfl ?_
  obtain ⟨bd42, hbd42, hF⟩ := lop1_ex hF
  refine x_loop (I := fun z41 : Int => (0 ≤ z41 ∧ z41 ≤ 6) ∧ (∃ nf : Nat, (7 - z41).toNat < nf ∧ Imp (lop1 nf bd42 z41) (f_s_nobodyGains x1 x2 V J Rr))) (μ := fun z41 : Int => (7 - z41).toNat) (wsf := fun z41 : Int => XW cy ad V J Rr) (lvf := fun z41 : Int => [(3, vI z41), (0, .ref (ad 0)), (1, vI x1), (2, vI x2)]) (fun z41 hI42x ih42 => ?_) 0 ⟨⟨by decide, by decide⟩, ⟨_, (by omega), hF⟩⟩ rfl rfl
  obtain ⟨bz41, nf42, hn42, hF⟩ := hI42x
  try dsimp only
  obtain ⟨nf42, rfl⟩ : ∃ mm, nf42 = mm + 1 := ⟨nf42 - 1, (Nat.succ_pred_eq_of_pos (Nat.lt_of_le_of_lt (Nat.zero_le _) hn42)).symm⟩
  replace hF := hF.to (lop1_s hbd42)
  refine x_iload_n C.1 dX11_nobodyGains_2 0 rfl ?_
  refine x_iload_n C.1 dX11_nobodyGains_3 3 rfl ?_
  refine x_icmp_ge C.1 (tgt := 34) dX11_nobodyGains_4 (by decide) (by omega) (by omega) (fun hc49 => ?_) (fun hc49 => ?_)
  · replace hF := hF.to (if_pos hc49)
    refine x_iconst C.1 (n := 1) dX11_nobodyGains_34 ?_
    exact x_zret (S := Unit) (post := (fun a (u : Unit) => (0 ≤ a ∧ a ≤ 1) ∧ (f_s_nobodyGains x1 x2 V J Rr) a)) (w1 := (fun _ : Unit => XW cy ad V J Rr)) (a := 1) C hr rfl dX11_nobodyGains_35 (by decide) () rfl ⟨⟨by decide, by decide⟩, hF _ rfl⟩
  · replace hF := hF.to (if_neg hc49)
    refine x_aload_n C.1 dX11_nobodyGains_7 1 rfl ?_
    refine x_iload_n C.1 dX11_nobodyGains_8 2 rfl ?_
    refine x_iconst C.1 (n := 1) dX11_nobodyGains_9 ?_
    refine x_iload_n C.1 dX11_nobodyGains_10 0 rfl ?_
    obtain ⟨z50, hz50, bz50⟩ : ∃ z : Int, iShl 1 z41 = z ∧ (-2147483648 ≤ z ∧ z ≤ 2147483647) := ⟨_, rfl, xi_r _⟩
    replace hF := hF.to (rdb_e (z := z50) hz50)
    refine x_ishl C.1 (v := z50) hz50 dX11_nobodyGains_11 ?_
    obtain ⟨z51, hz51, bz51⟩ : ∃ z : Int, iXor x1 z50 = z ∧ (-2147483648 ≤ z ∧ z ≤ 2147483647) := ⟨_, rfl, xi_r _⟩
    replace hF := hF.to (rdb_e (z := z51) hz51)
    refine x_ixor C.1 (v := z51) hz51 dX11_nobodyGains_12 ?_
    refine x_iload_n C.1 dX11_nobodyGains_13 0 rfl ?_
    refine x_callVi C (As := [vI z51, vI z41]) (rest := []) 0 (xw_at (N := 129) (i := 0) (by decide) rfl) vc_X11 (s_worthOf l D cy ad G V J Rr hI hJ hR z51 ⟨by omega, by omega⟩ z41 ⟨by omega, by omega⟩) (l1 := []) (l2 := []) (List.append_nil _).symm (w2 := fun _ => XW cy ad V J Rr) (fun _ => List.append_nil _) rfl wm_yX11_worthOf wn_X11 wl_X11_376 wi_yX11_worthOf we_yX11_worthOf hd_yX11_worthOf rfl ⟨Nat.le_of_ble_eq_true rfl, Nat.le_of_ble_eq_true rfl⟩ (Nat.le_of_ble_eq_true rfl) ⟨Nat.le_of_ble_eq_true rfl, Nat.le_of_ble_eq_true rfl⟩ dX11_nobodyGains_14 (fun z52 u52 bz52 h52 => ?_)
    have hFc52 := h52
    replace hF := calR_i hF hFc52
    refine x_aload_n C.1 dX11_nobodyGains_17 1 rfl ?_
    refine x_iload_n C.1 dX11_nobodyGains_18 2 rfl ?_
    refine x_iload_n C.1 dX11_nobodyGains_19 0 rfl ?_
    refine x_callVi C (As := [vI x1, vI z41]) (rest := [vI z52]) 0 (xw_at (N := 129) (i := 0) (by decide) rfl) vc_X11 (s_worthOf l D cy ad G V J Rr hI hJ hR x1 ⟨by omega, by omega⟩ z41 ⟨by omega, by omega⟩) (l1 := []) (l2 := []) (List.append_nil _).symm (w2 := fun _ => XW cy ad V J Rr) (fun _ => List.append_nil _) rfl wm_yX11_worthOf wn_X11 wl_X11_376 wi_yX11_worthOf we_yX11_worthOf hd_yX11_worthOf rfl ⟨Nat.le_of_ble_eq_true rfl, Nat.le_of_ble_eq_true rfl⟩ (Nat.le_of_ble_eq_true rfl) ⟨Nat.le_of_ble_eq_true rfl, Nat.le_of_ble_eq_true rfl⟩ dX11_nobodyGains_20 (fun z53 u53 bz53 h53 => ?_)
    have hFc53 := h53
    replace hF := calR_i hF hFc53
    refine x_icmp_le C.1 (tgt := 28) dX11_nobodyGains_23 (by decide) (by omega) (by omega) (fun hc54 => ?_) (fun hc54 => ?_)
    · replace hF := hF.to (if_pos hc54)
      refine x_iinc C.1 (v := z41 + 1) (lv' := [(3, vI (z41 + 1)), (0, .ref (ad 0)), (1, vI x1), (2, vI x2)]) (by omega) dX11_nobodyGains_28 0 rfl (by decide) rfl ?_
      refine x_goto C.1 (tgt := 2) dX11_nobodyGains_31 (by decide) ?_
      have hmu42 : (7 - (z41 + 1)).toNat < (7 - z41).toNat := (by omega)
      exact ih42 (z41 + 1) ⟨⟨by omega, by omega⟩, ⟨nf42, Nat.lt_of_lt_of_le hmu42 (Nat.le_of_lt_succ hn42), hF⟩⟩ hmu42
    · replace hF := hF.to (if_neg hc54)
      refine x_iconst C.1 (n := 0) dX11_nobodyGains_26 ?_
      exact x_zret (S := Unit) (post := (fun a (u : Unit) => (0 ≤ a ∧ a ≤ 1) ∧ (f_s_nobodyGains x1 x2 V J Rr) a)) (w1 := (fun _ : Unit => XW cy ad V J Rr)) (a := 0) C hr rfl dX11_nobodyGains_27 (by decide) () rfl ⟨⟨by decide, by decide⟩, hF _ rfl⟩
theorem hd_yX11_power : yX11_power.cls ≠ "java/lang/invoke/MethodHandle" ∧ yX11_power.cls ≠ "java/lang/invoke/VarHandle" ∧ (parseMethodDescriptor yX11_power.desc).map (fun d => d.parameters.length) = some 1 := by decide +kernel
theorem dX11_evenTenths_0 : decode cX11_evenTenths 0 = .ok (.bipush 10, 2) := by decide +kernel
theorem dX11_evenTenths_2 : decode cX11_evenTenths 2 = .ok (.istore_n 2, 1) := by decide +kernel
theorem dX11_evenTenths_3 : decode cX11_evenTenths 3 = .ok (.iload_n 2, 1) := by decide +kernel
theorem dX11_evenTenths_4 : decode cX11_evenTenths 4 = .ok (.ifCond .lt 104, 3) := by decide +kernel
theorem dX11_evenTenths_7 : decode cX11_evenTenths 7 = .ok (.lconst 1, 1) := by decide +kernel
theorem dX11_evenTenths_8 : decode cX11_evenTenths 8 = .ok (.lstore_n 3, 1) := by decide +kernel
theorem dX11_evenTenths_9 : decode cX11_evenTenths 9 = .ok (.iconst 1, 1) := by decide +kernel
theorem dX11_evenTenths_10 : decode cX11_evenTenths 10 = .ok (.istore 5, 2) := by decide +kernel
theorem dX11_evenTenths_12 : decode cX11_evenTenths 12 = .ok (.iload 5, 2) := by decide +kernel
theorem dX11_evenTenths_14 : decode cX11_evenTenths 14 = .ok (.iload_n 1, 1) := by decide +kernel
theorem dX11_evenTenths_15 : decode cX11_evenTenths 15 = .ok (.if_icmp .ge 17, 3) := by decide +kernel
theorem dX11_evenTenths_18 : decode cX11_evenTenths 18 = .ok (.lload_n 3, 1) := by decide +kernel
theorem dX11_evenTenths_19 : decode cX11_evenTenths 19 = .ok (.bipush 10, 2) := by decide +kernel
theorem dX11_evenTenths_21 : decode cX11_evenTenths 21 = .ok (.iload_n 2, 1) := by decide +kernel
theorem dX11_evenTenths_22 : decode cX11_evenTenths 22 = .ok (.isub, 1) := by decide +kernel
theorem dX11_evenTenths_23 : decode cX11_evenTenths 23 = .ok (.i2l, 1) := by decide +kernel
theorem dX11_evenTenths_24 : decode cX11_evenTenths 24 = .ok (.lmul, 1) := by decide +kernel
theorem dX11_evenTenths_25 : decode cX11_evenTenths 25 = .ok (.lstore_n 3, 1) := by decide +kernel
theorem dX11_evenTenths_26 : decode cX11_evenTenths 26 = .ok (.iinc 5 1, 3) := by decide +kernel
theorem dX11_evenTenths_29 : decode cX11_evenTenths 29 = .ok (.goto (-17), 3) := by decide +kernel
theorem dX11_evenTenths_32 : decode cX11_evenTenths 32 = .ok (.iconst 1, 1) := by decide +kernel
theorem dX11_evenTenths_33 : decode cX11_evenTenths 33 = .ok (.istore 5, 2) := by decide +kernel
theorem dX11_evenTenths_35 : decode cX11_evenTenths 35 = .ok (.iconst 0, 1) := by decide +kernel
theorem dX11_evenTenths_36 : decode cX11_evenTenths 36 = .ok (.istore 6, 2) := by decide +kernel
theorem dX11_evenTenths_38 : decode cX11_evenTenths 38 = .ok (.iload 6, 2) := by decide +kernel
theorem dX11_evenTenths_40 : decode cX11_evenTenths 40 = .ok (.iload_n 1, 1) := by decide +kernel
theorem dX11_evenTenths_41 : decode cX11_evenTenths 41 = .ok (.if_icmp .ge 54, 3) := by decide +kernel
theorem dX11_evenTenths_44 : decode cX11_evenTenths 44 = .ok (.iload 5, 2) := by decide +kernel
theorem dX11_evenTenths_46 : decode cX11_evenTenths 46 = .ok (.aload_n 0, 1) := by decide +kernel
theorem dX11_evenTenths_47 : decode cX11_evenTenths 47 = .ok (.getfield 34, 3) := by decide +kernel
theorem dX11_evenTenths_50 : decode cX11_evenTenths 50 = .ok (.getfield 379, 3) := by decide +kernel
theorem dX11_evenTenths_53 : decode cX11_evenTenths 53 = .ok (.iload 6, 2) := by decide +kernel
theorem dX11_evenTenths_55 : decode cX11_evenTenths 55 = .ok (.iaload, 1) := by decide +kernel
theorem dX11_evenTenths_56 : decode cX11_evenTenths 56 = .ok (.i2l, 1) := by decide +kernel
theorem dX11_evenTenths_57 : decode cX11_evenTenths 57 = .ok (.lload_n 3, 1) := by decide +kernel
theorem dX11_evenTenths_58 : decode cX11_evenTenths 58 = .ok (.lmul, 1) := by decide +kernel
theorem dX11_evenTenths_59 : decode cX11_evenTenths 59 = .ok (.aload_n 0, 1) := by decide +kernel
theorem dX11_evenTenths_60 : decode cX11_evenTenths 60 = .ok (.getfield 34, 3) := by decide +kernel
theorem dX11_evenTenths_63 : decode cX11_evenTenths 63 = .ok (.getfield 382, 3) := by decide +kernel
theorem dX11_evenTenths_66 : decode cX11_evenTenths 66 = .ok (.iload 6, 2) := by decide +kernel
theorem dX11_evenTenths_68 : decode cX11_evenTenths 68 = .ok (.iaload, 1) := by decide +kernel
theorem dX11_evenTenths_69 : decode cX11_evenTenths 69 = .ok (.i2l, 1) := by decide +kernel
theorem dX11_evenTenths_70 : decode cX11_evenTenths 70 = .ok (.iload_n 1, 1) := by decide +kernel
theorem dX11_evenTenths_71 : decode cX11_evenTenths 71 = .ok (.iconst 1, 1) := by decide +kernel
theorem dX11_evenTenths_72 : decode cX11_evenTenths 72 = .ok (.isub, 1) := by decide +kernel
theorem dX11_evenTenths_73 : decode cX11_evenTenths 73 = .ok (.invokestatic 279, 3) := by decide +kernel
theorem dX11_evenTenths_76 : decode cX11_evenTenths 76 = .ok (.lmul, 1) := by decide +kernel
theorem dX11_evenTenths_77 : decode cX11_evenTenths 77 = .ok (.lcmp, 1) := by decide +kernel
theorem dX11_evenTenths_78 : decode cX11_evenTenths 78 = .ok (.ifCond .lt 7, 3) := by decide +kernel
theorem dX11_evenTenths_81 : decode cX11_evenTenths 81 = .ok (.iconst 1, 1) := by decide +kernel
theorem dX11_evenTenths_82 : decode cX11_evenTenths 82 = .ok (.goto 4, 3) := by decide +kernel
theorem dX11_evenTenths_85 : decode cX11_evenTenths 85 = .ok (.iconst 0, 1) := by decide +kernel
theorem dX11_evenTenths_86 : decode cX11_evenTenths 86 = .ok (.iand, 1) := by decide +kernel
theorem dX11_evenTenths_87 : decode cX11_evenTenths 87 = .ok (.istore 5, 2) := by decide +kernel
theorem dX11_evenTenths_89 : decode cX11_evenTenths 89 = .ok (.iinc 6 1, 3) := by decide +kernel
theorem dX11_evenTenths_92 : decode cX11_evenTenths 92 = .ok (.goto (-54), 3) := by decide +kernel
theorem dX11_evenTenths_95 : decode cX11_evenTenths 95 = .ok (.iload 5, 2) := by decide +kernel
theorem dX11_evenTenths_97 : decode cX11_evenTenths 97 = .ok (.ifCond .eq 5, 3) := by decide +kernel
theorem dX11_evenTenths_100 : decode cX11_evenTenths 100 = .ok (.iload_n 2, 1) := by decide +kernel
theorem dX11_evenTenths_101 : decode cX11_evenTenths 101 = .ok (.ireturn, 1) := by decide +kernel
theorem dX11_evenTenths_102 : decode cX11_evenTenths 102 = .ok (.iinc 2 (-1), 3) := by decide +kernel
theorem dX11_evenTenths_105 : decode cX11_evenTenths 105 = .ok (.goto (-102), 3) := by decide +kernel
theorem dX11_evenTenths_108 : decode cX11_evenTenths 108 = .ok (.bipush (-2), 2) := by decide +kernel
theorem dX11_evenTenths_110 : decode cX11_evenTenths 110 = .ok (.ireturn, 1) := by decide +kernel
set_option maxRecDepth 100000 in
def f_s_evenTenths (x1 : Int) (V : Nat → Nat → Int) (J : Nat → Nat → Int) (Rr : Nat → Nat → Nat) : (Int) → Prop :=
  lop1 (13) (fun rc6945 (z6944 : Int) => (if z6944 < 0 then rtn ((-2)) else lop2 (7) (fun rc9041 (z9039 : Int) (z9040 : Int) => (if x1 ≤ z9039 then lop2 (8) (fun rc9332 (z9330 : Int) (z9331 : Int) => (if x1 ≤ z9330 then (if z9331 = 0 then rc6945 (z6944 - 1) else rtn z6944) else rdb (V 68 z9330.toNat) fun z9367 => rdb (wrJ (z9367 * z9040)) fun z9368 => rdb (V 67 z9330.toNat) fun z9369 => calR (f_s_power (x1 - 1)) fun z9370 => rdb (wrJ (z9369 * z9370)) fun z9371 => jnk (fun (z9373 : Int) => rdb (iAnd z9331 z9373) fun z9375 => fct (0 ≤ z9375 ∧ z9375 ≤ 1) <| rc9332 (z9330 + 1) z9375) fun jf9374 => (if (lcI z9368 z9371) < 0 then jf9374 0 else jf9374 1))) 0 1 else rdb (wrJ (z9040 * (-z6944 + 10))) fun z9377 => rc9041 (z9039 + 1) z9377)) 1 1)) 10
set_option maxHeartbeats 8000000 in
set_option maxRecDepth 100000 in
theorem s_evenTenths (l : Launch) (D : va_G) (cy : Nat → ClassId) (ad : Nat → Nat) (G : Nat → Nat → Int) (V J : Nat → Nat → Int) (Rr : Nat → Nat → Nat) (hI : XI G V) (hJ : VJ J) (hR : XR Rr) (x1 : Int) (bx1 : 2 ≤ x1 ∧ x1 ≤ 6) : xMi l D (xTY cy) yX11_evenTenths cX11_evenTenths 7 (some .int) 1 23 0 0 [.ref (ad 0), vI x1] (XW cy ad V J Rr) (fun _ : Unit => XW cy ad V J Rr) (fun a (u : Unit) => (f_s_evenTenths x1 V J Rr) a) := by
  refine xMi.mk (lv0 := [(0, .ref (ad 0)), (1, vI x1)]) (by decide) rfl (Nat.le_of_ble_eq_true rfl) (fun p e s m below meth c A C hr hnm hAe => ?_)
  have C : xC2 p s m _ meth c D A s.heap 7 cX11_evenTenths RX11 (xTY cy) := C
  have hF := Imp.of_eq (f_s_evenTenths.eq_def x1 V J Rr)
  refine x_bipush C.1 (n := 10) dX11_evenTenths_0 ?_
  refine x_istore_n C.1 (lv' := [(2, vI 10), (0, .ref (ad 0)), (1, vI x1)]) dX11_evenTenths_2 (by decide) rfl ?_
  obtain ⟨bd6945, hbd6945, hF⟩ := lop1_ex hF
  refine x_loop (I := fun z6944 : Int => (-1 ≤ z6944 ∧ z6944 ≤ 10) ∧ (∃ nf : Nat, (z6944 - (-2)).toNat < nf ∧ Imp (lop1 nf bd6945 z6944) (f_s_evenTenths x1 V J Rr))) (μ := fun z6944 : Int => (z6944 - (-2)).toNat) (wsf := fun z6944 : Int => XW cy ad V J Rr) (lvf := fun z6944 : Int => [(2, vI z6944), (0, .ref (ad 0)), (1, vI x1)]) (fun z6944 hI6945x ih6945 => ?_) 10 ⟨⟨by decide, by decide⟩, ⟨_, (by omega), hF⟩⟩ rfl rfl
  obtain ⟨bz6944, nf6945, hn6945, hF⟩ := hI6945x
  try dsimp only
  obtain ⟨nf6945, rfl⟩ : ∃ mm, nf6945 = mm + 1 := ⟨nf6945 - 1, (Nat.succ_pred_eq_of_pos (Nat.lt_of_le_of_lt (Nat.zero_le _) hn6945)).symm⟩
  replace hF := hF.to (lop1_s hbd6945)
  refine x_iload_n C.1 dX11_evenTenths_3 0 rfl ?_
  refine x_if_lt C.1 (tgt := 108) dX11_evenTenths_4 (by decide) (by omega) (fun hc8162 => ?_) (fun hc8162 => ?_)
  · replace hF := hF.to (if_pos hc8162)
    refine x_bipush C.1 (n := -2) dX11_evenTenths_108 ?_
    exact x_iret (S := Unit) (post := (fun a (u : Unit) => (f_s_evenTenths x1 V J Rr) a)) (w1 := (fun _ : Unit => XW cy ad V J Rr)) (a := (-2)) C hr rfl dX11_evenTenths_110 (by decide) () rfl (hF _ rfl)
  · replace hF := hF.to (if_neg hc8162)
    refine x_lconst1 C.1 dX11_evenTenths_7 ?_
    refine x_lstore_n C.1 (lv' := [(3, vJ 1), (2, vI z6944), (0, .ref (ad 0)), (1, vI x1)]) dX11_evenTenths_8 (by decide) rfl ?_
    refine x_iconst C.1 (n := 1) dX11_evenTenths_9 ?_
    refine x_istore C.1 (lv' := [(5, vI 1), (3, vJ 1), (2, vI z6944), (0, .ref (ad 0)), (1, vI x1)]) dX11_evenTenths_10 (by decide) rfl ?_
    obtain ⟨bd9041, hbd9041, hF⟩ := lop2_ex hF
    refine x_loop (I := fun x : Int × Int => match x with | (z9039, z9040) => (1 ≤ z9039 ∧ z9039 ≤ 6) ∧ (-9223372036854775808 ≤ z9040 ∧ z9040 ≤ 9223372036854775807) ∧ (∃ nf : Nat, (7 - z9039).toNat < nf ∧ Imp (lop2 nf bd9041 z9039 z9040) (f_s_evenTenths x1 V J Rr))) (μ := fun x : Int × Int => match x with | (z9039, z9040) => (7 - z9039).toNat) (wsf := fun x : Int × Int => match x with | (z9039, z9040) => XW cy ad V J Rr) (lvf := fun x : Int × Int => match x with | (z9039, z9040) => [(5, vI z9039), (3, vJ z9040), (2, vI z6944), (0, .ref (ad 0)), (1, vI x1)]) (fun x hI9041x ih9041 => ?_) (1, 1) ⟨⟨by decide, by decide⟩, ⟨by decide, by decide⟩, ⟨_, (by omega), hF⟩⟩ rfl rfl
    obtain ⟨z9039, z9040⟩ := x
    obtain ⟨bz9039, bz9040, nf9041, hn9041, hF⟩ := hI9041x
    try dsimp only
    obtain ⟨nf9041, rfl⟩ : ∃ mm, nf9041 = mm + 1 := ⟨nf9041 - 1, (Nat.succ_pred_eq_of_pos (Nat.lt_of_le_of_lt (Nat.zero_le _) hn9041)).symm⟩
    replace hF := hF.to (lop2_s hbd9041)
    refine x_iload C.1 dX11_evenTenths_12 0 rfl ?_
    refine x_iload_n C.1 dX11_evenTenths_14 4 rfl ?_
    refine x_icmp_ge C.1 (tgt := 32) dX11_evenTenths_15 (by decide) (by omega) (by omega) (fun hc9211 => ?_) (fun hc9211 => ?_)
    · replace hF := hF.to (if_pos hc9211)
      refine x_iconst C.1 (n := 1) dX11_evenTenths_32 ?_
      refine x_istore C.1 (lv' := [(5, vI 1), (3, vJ z9040), (2, vI z6944), (0, .ref (ad 0)), (1, vI x1)]) dX11_evenTenths_33 (by decide) rfl ?_
      refine x_iconst C.1 (n := 0) dX11_evenTenths_35 ?_
      refine x_istore C.1 (lv' := [(6, vI 0), (5, vI 1), (3, vJ z9040), (2, vI z6944), (0, .ref (ad 0)), (1, vI x1)]) dX11_evenTenths_36 (by decide) rfl ?_
      obtain ⟨bd9332, hbd9332, hF⟩ := lop2_ex hF
      refine x_loop (I := fun x : Int × Int => match x with | (z9330, z9331) => (0 ≤ z9330 ∧ z9330 ≤ 6) ∧ (0 ≤ z9331 ∧ z9331 ≤ 1) ∧ (∃ nf : Nat, (7 - z9330).toNat < nf ∧ Imp (lop2 nf bd9332 z9330 z9331) (f_s_evenTenths x1 V J Rr))) (μ := fun x : Int × Int => match x with | (z9330, z9331) => (7 - z9330).toNat) (wsf := fun x : Int × Int => match x with | (z9330, z9331) => XW cy ad V J Rr) (lvf := fun x : Int × Int => match x with | (z9330, z9331) => [(6, vI z9330), (5, vI z9331), (3, vJ z9040), (2, vI z6944), (0, .ref (ad 0)), (1, vI x1)]) (fun x hI9332x ih9332 => ?_) (0, 1) ⟨⟨by decide, by decide⟩, ⟨by decide, by decide⟩, ⟨_, (by omega), hF⟩⟩ rfl rfl
      obtain ⟨z9330, z9331⟩ := x
      obtain ⟨bz9330, bz9331, nf9332, hn9332, hF⟩ := hI9332x
      try dsimp only
      obtain ⟨nf9332, rfl⟩ : ∃ mm, nf9332 = mm + 1 := ⟨nf9332 - 1, (Nat.succ_pred_eq_of_pos (Nat.lt_of_le_of_lt (Nat.zero_le _) hn9332)).symm⟩
      replace hF := hF.to (lop2_s hbd9332)
      refine x_iload C.1 dX11_evenTenths_38 0 rfl ?_
      refine x_iload_n C.1 dX11_evenTenths_40 5 rfl ?_
      refine x_icmp_ge C.1 (tgt := 95) dX11_evenTenths_41 (by decide) (by omega) (by omega) (fun hc9365 => ?_) (fun hc9365 => ?_)
      · replace hF := hF.to (if_pos hc9365)
        refine x_iload C.1 dX11_evenTenths_95 1 rfl ?_
        refine x_if_eq C.1 (tgt := 102) dX11_evenTenths_97 (by decide) (by omega) (fun hc9366 => ?_) (fun hc9366 => ?_)
        · replace hF := hF.to (if_pos hc9366)
          refine x_iinc C.1 (v := z6944 - 1) (lv' := [(2, vI (z6944 - 1)), (6, vI z9330), (5, vI z9331), (3, vJ z9040), (0, .ref (ad 0)), (1, vI x1)]) (by omega) dX11_evenTenths_102 3 rfl (by decide) rfl ?_
          refine x_goto C.1 (tgt := 3) dX11_evenTenths_105 (by decide) ?_
          refine x_lv [(2, vI (z6944 - 1)), (0, .ref (ad 0)), (1, vI x1)] [0, 4, 5] rfl ?_
          have hmu6945 : ((z6944 - 1) - (-2)).toNat < (z6944 - (-2)).toNat := (by omega)
          exact ih6945 (z6944 - 1) ⟨⟨by omega, by omega⟩, ⟨nf6945, Nat.lt_of_lt_of_le hmu6945 (Nat.le_of_lt_succ hn6945), hF⟩⟩ hmu6945
        · replace hF := hF.to (if_neg hc9366)
          refine x_iload_n C.1 dX11_evenTenths_100 3 rfl ?_
          exact x_iret (S := Unit) (post := (fun a (u : Unit) => (f_s_evenTenths x1 V J Rr) a)) (w1 := (fun _ : Unit => XW cy ad V J Rr)) (a := z6944) C hr rfl dX11_evenTenths_101 (by omega) () rfl (hF _ rfl)
      · replace hF := hF.to (if_neg hc9365)
        refine x_iload C.1 dX11_evenTenths_44 1 rfl ?_
        refine x_aload_n C.1 dX11_evenTenths_46 4 rfl ?_
        refine x_getA C (N := 129) (i := 0) (by decide) rfl vc_X11 wx_X11 5 (by decide) wf_X11_34 (a := 60) rfl dX11_evenTenths_47 ?_
        refine x_getA C (N := 129) (i := 60) (by decide) rfl vc_X1 wx_X1 3 (by decide) wf_X11_379 (a := 68) rfl dX11_evenTenths_50 ?_
        refine x_iload C.1 dX11_evenTenths_53 0 rfl ?_
        obtain ⟨z9367, ez9367, bz9367⟩ := hI.rd 68 z9330.toNat (x := -2147483648) (y := 2147483647) rfl
        replace hF := hF.to (rdb_e (z := z9367) ez9367)
        refine x_iald C (N := 129) (i := 68) (q := z9330) (by decide) rfl (by omega) (by decide) dX11_evenTenths_55 (a := z9367) ez9367 ?_
        refine x_i2l C.1 dX11_evenTenths_56 (by omega) ?_
        refine x_lload_n C.1 dX11_evenTenths_57 2 rfl ?_
        refine x_lmul C.1 rfl dX11_evenTenths_58 ?_
        refine x_wrapJg ?_
        intro z9368 bz9368 ew9368
        replace hF := hF.to (rdb_e (z := z9368) ew9368.symm)
        refine x_aload_n C.1 dX11_evenTenths_59 4 rfl ?_
        refine x_getA C (N := 129) (i := 0) (by decide) rfl vc_X11 wx_X11 5 (by decide) wf_X11_34 (a := 60) rfl dX11_evenTenths_60 ?_
        refine x_getA C (N := 129) (i := 60) (by decide) rfl vc_X1 wx_X1 2 (by decide) wf_X11_382 (a := 67) rfl dX11_evenTenths_63 ?_
        refine x_iload C.1 dX11_evenTenths_66 0 rfl ?_
        obtain ⟨z9369, ez9369, bz9369⟩ := hI.rd 67 z9330.toNat (x := -2147483648) (y := 2147483647) rfl
        replace hF := hF.to (rdb_e (z := z9369) ez9369)
        refine x_iald C (N := 129) (i := 67) (q := z9330) (by decide) rfl (by omega) (by decide) dX11_evenTenths_68 (a := z9369) ez9369 ?_
        refine x_i2l C.1 dX11_evenTenths_69 (by omega) ?_
        refine x_iload_n C.1 dX11_evenTenths_70 5 rfl ?_
        refine x_iconst C.1 (n := 1) dX11_evenTenths_71 ?_
        refine x_isub C.1 (v := x1 - 1) (by omega) dX11_evenTenths_72 ?_
        refine x_callSl C (As := [vI (x1 - 1)]) (rest := [vJ z9369, vJ z9368, vI z9331]) (s_power l D cy (x1 - 1) ⟨by omega, by omega⟩) (l1 := []) (l2 := _) rfl (w2 := fun _ => _) (fun _ => rfl) rfl wm_yX11_power wn_X11 wl_X11_279 wi_yX11_power hd_yX11_power rfl ⟨Nat.le_of_ble_eq_true rfl, Nat.le_of_ble_eq_true rfl⟩ (Nat.le_of_ble_eq_true rfl) ⟨Nat.le_of_ble_eq_true rfl, Nat.le_of_ble_eq_true rfl⟩ dX11_evenTenths_73 (fun z9370 u9370 bz9370 h9370 => ?_)
        have hFc9370 := h9370
        replace hF := calR_i hF hFc9370
        refine x_lmul C.1 rfl dX11_evenTenths_76 ?_
        refine x_wrapJg ?_
        intro z9371 bz9371 ew9371
        replace hF := hF.to (rdb_e (z := z9371) ew9371.symm)
        refine x_lcmp C.1 rfl dX11_evenTenths_77 (by omega) (by omega) ?_
        have bz9372 := lcI_r2 z9368 z9371
        obtain ⟨jf9374, hjf9374, hF⟩ := jn_ex hF
        refine x_join (I := fun z9373 : Int => (0 ≤ z9373 ∧ z9373 ≤ 1) ∧ Imp (jf9374 z9373) (f_s_evenTenths x1 V J Rr)) (wsf := fun z9373 : Int => XW cy ad V J Rr) (lvf := fun z9373 : Int => [(6, vI z9330), (5, vI z9331), (3, vJ z9040), (2, vI z6944), (0, .ref (ad 0)), (1, vI x1)]) (stf := fun z9373 : Int => [vI z9373, vI z9331]) 86 (fun z9373 hI9374x => ?_) (fun jn9374 => ?_)
        · obtain ⟨bz9373, hF⟩ := hI9374x
          try dsimp only
          replace hF := hF.to (jn_s1 hjf9374)
          obtain ⟨z9375, hz9375, bz9375⟩ : ∃ z : Int, iAnd z9331 z9373 = z ∧ (0 ≤ z ∧ z ≤ 1) := ⟨_, rfl, iAnd_leB _ (by omega)⟩
          replace hF := hF.to (rdb_e (z := z9375) hz9375)
          replace hF := hF.fc bz9375
          refine x_iand C.1 (v := z9375) hz9375 dX11_evenTenths_86 ?_
          refine x_istore C.1 (lv' := [(5, vI z9375), (6, vI z9330), (3, vJ z9040), (2, vI z6944), (0, .ref (ad 0)), (1, vI x1)]) dX11_evenTenths_87 (by decide) rfl ?_
          refine x_iinc C.1 (v := z9330 + 1) (lv' := [(6, vI (z9330 + 1)), (5, vI z9375), (3, vJ z9040), (2, vI z6944), (0, .ref (ad 0)), (1, vI x1)]) (by omega) dX11_evenTenths_89 1 rfl (by decide) rfl ?_
          refine x_goto C.1 (tgt := 38) dX11_evenTenths_92 (by decide) ?_
          have hmu9332 : (7 - (z9330 + 1)).toNat < (7 - z9330).toNat := (by omega)
          exact ih9332 (z9330 + 1, z9375) ⟨⟨by omega, by omega⟩, ⟨by omega, by omega⟩, ⟨nf9332, Nat.lt_of_lt_of_le hmu9332 (Nat.le_of_lt_succ hn9332), hF⟩⟩ hmu9332
        · refine x_if_lt C.1 (tgt := 85) dX11_evenTenths_78 (by decide) (by omega) (fun hc9376 => ?_) (fun hc9376 => ?_)
          · replace hF := hF.to (if_pos hc9376)
            rw [lcI_lt] at hc9376
            refine x_iconst C.1 (n := 0) dX11_evenTenths_85 ?_
            exact jn9374 0 ⟨⟨by decide, by decide⟩, hF⟩
          · replace hF := hF.to (if_neg hc9376)
            rw [lcI_lt] at hc9376
            refine x_iconst C.1 (n := 1) dX11_evenTenths_81 ?_
            refine x_goto C.1 (tgt := 86) dX11_evenTenths_82 (by decide) ?_
            exact jn9374 1 ⟨⟨by decide, by decide⟩, hF⟩
    · replace hF := hF.to (if_neg hc9211)
      refine x_lload_n C.1 dX11_evenTenths_18 1 rfl ?_
      refine x_bipush C.1 (n := 10) dX11_evenTenths_19 ?_
      refine x_iload_n C.1 dX11_evenTenths_21 2 rfl ?_
      refine x_isub C.1 (v := -z6944 + 10) (by omega) dX11_evenTenths_22 ?_
      refine x_i2l C.1 dX11_evenTenths_23 (by omega) ?_
      refine x_lmul C.1 rfl dX11_evenTenths_24 ?_
      refine x_wrapJg ?_
      intro z9377 bz9377 ew9377
      replace hF := hF.to (rdb_e (z := z9377) ew9377.symm)
      refine x_lstore_n C.1 (lv' := [(3, vJ z9377), (5, vI z9039), (2, vI z6944), (0, .ref (ad 0)), (1, vI x1)]) dX11_evenTenths_25 (by decide) rfl ?_
      refine x_iinc C.1 (v := z9039 + 1) (lv' := [(5, vI (z9039 + 1)), (3, vJ z9377), (2, vI z6944), (0, .ref (ad 0)), (1, vI x1)]) (by omega) dX11_evenTenths_26 1 rfl (by decide) rfl ?_
      refine x_goto C.1 (tgt := 12) dX11_evenTenths_29 (by decide) ?_
      have hmu9041 : (7 - (z9039 + 1)).toNat < (7 - z9039).toNat := (by omega)
      exact ih9041 (z9039 + 1, z9377) ⟨⟨by omega, by omega⟩, ⟨by omega, by omega⟩, ⟨nf9041, Nat.lt_of_lt_of_le hmu9041 (Nat.le_of_lt_succ hn9041), hF⟩⟩ hmu9041
theorem dX11_fits_0 : decode cX11_fits 0 = .ok (.iconst 0, 1) := by decide +kernel
theorem dX11_fits_1 : decode cX11_fits 1 = .ok (.aload_n 0, 1) := by decide +kernel
theorem dX11_fits_2 : decode cX11_fits 2 = .ok (.getfield 25, 3) := by decide +kernel
theorem dX11_fits_5 : decode cX11_fits 5 = .ok (.iload_n 1, 1) := by decide +kernel
theorem dX11_fits_6 : decode cX11_fits 6 = .ok (.invokevirtual 385, 3) := by decide +kernel
theorem dX11_fits_9 : decode cX11_fits 9 = .ok (.iload_n 2, 1) := by decide +kernel
theorem dX11_fits_10 : decode cX11_fits 10 = .ok (.iadd, 1) := by decide +kernel
theorem dX11_fits_11 : decode cX11_fits 11 = .ok (.invokestatic 291, 3) := by decide +kernel
theorem dX11_fits_14 : decode cX11_fits 14 = .ok (.aload_n 0, 1) := by decide +kernel
theorem dX11_fits_15 : decode cX11_fits 15 = .ok (.getfield 25, 3) := by decide +kernel
theorem dX11_fits_18 : decode cX11_fits 18 = .ok (.iload_n 1, 1) := by decide +kernel
theorem dX11_fits_19 : decode cX11_fits 19 = .ok (.iconst 1, 1) := by decide +kernel
theorem dX11_fits_20 : decode cX11_fits 20 = .ok (.iadd, 1) := by decide +kernel
theorem dX11_fits_21 : decode cX11_fits 21 = .ok (.invokevirtual 385, 3) := by decide +kernel
theorem dX11_fits_24 : decode cX11_fits 24 = .ok (.if_icmp .ne 7, 3) := by decide +kernel
theorem dX11_fits_27 : decode cX11_fits 27 = .ok (.iconst 1, 1) := by decide +kernel
theorem dX11_fits_28 : decode cX11_fits 28 = .ok (.goto 4, 3) := by decide +kernel
theorem dX11_fits_31 : decode cX11_fits 31 = .ok (.iconst 0, 1) := by decide +kernel
theorem dX11_fits_32 : decode cX11_fits 32 = .ok (.ireturn, 1) := by decide +kernel
set_option maxRecDepth 100000 in
def f_s_fits (x1 : Int) (x2 : Int) (V : Nat → Nat → Int) (J : Nat → Nat → Int) (Rr : Nat → Nat → Nat) : (Int) → Prop :=
  calR (f_s_at x1 V J Rr) fun z1 => rdb (wr (z1 + x2)) fun z2 => rdb (max 0 z2) fun z3 => fct (0 ≤ z3 ∧ z3 ≤ 2147483647) <| rdb (wr (x1 + 1)) fun z4 => calR (f_s_at z4 V J Rr) fun z5 => (if ¬ z3 = z5 then rtn 0 else rtn 1)
set_option maxHeartbeats 8000000 in
set_option maxRecDepth 100000 in
theorem s_fits (l : Launch) (D : va_G) (cy : Nat → ClassId) (ad : Nat → Nat) (G : Nat → Nat → Int) (V J : Nat → Nat → Int) (Rr : Nat → Nat → Nat) (hI : XI G V) (hJ : VJ J) (hR : XR Rr) (x1 : Int) (bx1 : -2147483648 ≤ x1 ∧ x1 ≤ 2147483647) (x2 : Int) (bx2 : -2147483648 ≤ x2 ∧ x2 ≤ 2147483647) : xMi l D (xTY cy) yX11_fits cX11_fits 3 (some .boolean) 1 21 0 0 [.ref (ad 0), vI x1, vI x2] (XW cy ad V J Rr) (fun _ : Unit => XW cy ad V J Rr) (fun a (u : Unit) => (0 ≤ a ∧ a ≤ 1) ∧ (f_s_fits x1 x2 V J Rr) a) := by
  refine xMi.mk (lv0 := [(0, .ref (ad 0)), (1, vI x1), (2, vI x2)]) (by decide) rfl (Nat.le_of_ble_eq_true rfl) (fun p e s m below meth c A C hr hnm hAe => ?_)
  have C : xC2 p s m _ meth c D A s.heap 3 cX11_fits RX11 (xTY cy) := C
  have hF := Imp.of_eq (f_s_fits.eq_def x1 x2 V J Rr)
  refine x_iconst C.1 (n := 0) dX11_fits_0 ?_
  refine x_aload_n C.1 dX11_fits_1 0 rfl ?_
  refine x_getA C (N := 129) (i := 0) (by decide) rfl vc_X11 wx_X11 4 (by decide) wf_X11_25 (a := 58) rfl dX11_fits_2 ?_
  refine x_iload_n C.1 dX11_fits_5 1 rfl ?_
  refine x_callVi C (As := [vI x1]) (rest := [vI 0]) 58 (xw_at (N := 129) (i := 58) (by decide) rfl) vc_X8 (s_at l D cy ad G V J Rr hI hJ hR x1 ⟨by omega, by omega⟩) (l1 := []) (l2 := []) (List.append_nil _).symm (w2 := fun _ => XW cy ad V J Rr) (fun _ => List.append_nil _) rfl wm_yX8_at wn_X8 wl_X11_385 wi_yX8_at we_yX8_at hd_yX8_at rfl ⟨Nat.le_of_ble_eq_true rfl, Nat.le_of_ble_eq_true rfl⟩ (Nat.le_of_ble_eq_true rfl) ⟨Nat.le_of_ble_eq_true rfl, Nat.le_of_ble_eq_true rfl⟩ dX11_fits_6 (fun z1 u1 bz1 h1 => ?_)
  have hFc1 := h1
  replace hF := calR_i hF hFc1
  refine x_iload_n C.1 dX11_fits_9 2 rfl ?_
  refine x_iadd C.1 (v := z1 + x2) (by omega) dX11_fits_10 ?_
  refine x_wrapg ?_
  intro z2 bz2 ew2
  replace hF := hF.to (rdb_e (z := z2) ew2.symm)
  refine x_mmax C wl_X11_291 (by decide) (by omega) dX11_fits_11 ⟨Nat.le_of_ble_eq_true rfl, Nat.le_of_ble_eq_true rfl⟩ (Nat.le_of_ble_eq_true rfl) ⟨Nat.le_of_ble_eq_true rfl, Nat.le_of_ble_eq_true rfl⟩ (fun z3 hx3 => ?_)
  have bz3 : 0 ≤ z3 ∧ z3 ≤ 2147483647 := by omega
  replace hF := hF.to (rdb_e (z := z3) (by omega))
  replace hF := hF.fc bz3
  clear hx3
  refine x_aload_n C.1 dX11_fits_14 0 rfl ?_
  refine x_getA C (N := 129) (i := 0) (by decide) rfl vc_X11 wx_X11 4 (by decide) wf_X11_25 (a := 58) rfl dX11_fits_15 ?_
  refine x_iload_n C.1 dX11_fits_18 1 rfl ?_
  refine x_iconst C.1 (n := 1) dX11_fits_19 ?_
  refine x_iadd C.1 (v := x1 + 1) (by omega) dX11_fits_20 ?_
  refine x_wrapg ?_
  intro z4 bz4 ew4
  replace hF := hF.to (rdb_e (z := z4) ew4.symm)
  refine x_callVi C (As := [vI z4]) (rest := [vI z3]) 58 (xw_at (N := 129) (i := 58) (by decide) rfl) vc_X8 (s_at l D cy ad G V J Rr hI hJ hR z4 ⟨by omega, by omega⟩) (l1 := []) (l2 := []) (List.append_nil _).symm (w2 := fun _ => XW cy ad V J Rr) (fun _ => List.append_nil _) rfl wm_yX8_at wn_X8 wl_X11_385 wi_yX8_at we_yX8_at hd_yX8_at rfl ⟨Nat.le_of_ble_eq_true rfl, Nat.le_of_ble_eq_true rfl⟩ (Nat.le_of_ble_eq_true rfl) ⟨Nat.le_of_ble_eq_true rfl, Nat.le_of_ble_eq_true rfl⟩ dX11_fits_21 (fun z5 u5 bz5 h5 => ?_)
  have hFc5 := h5
  replace hF := calR_i hF hFc5
  refine x_icmp_ne C.1 (tgt := 31) dX11_fits_24 (by decide) (by omega) (by omega) (fun hc6 => ?_) (fun hc6 => ?_)
  · replace hF := hF.to (if_pos hc6)
    refine x_iconst C.1 (n := 0) dX11_fits_31 ?_
    exact x_zret (S := Unit) (post := (fun a (u : Unit) => (0 ≤ a ∧ a ≤ 1) ∧ (f_s_fits x1 x2 V J Rr) a)) (w1 := (fun _ : Unit => XW cy ad V J Rr)) (a := 0) C hr rfl dX11_fits_32 (by decide) () rfl ⟨⟨by decide, by decide⟩, hF _ rfl⟩
  · replace hF := hF.to (if_neg (fun hh => hh hc6))
    refine x_iconst C.1 (n := 1) dX11_fits_27 ?_
    refine x_goto C.1 (tgt := 32) dX11_fits_28 (by decide) ?_
    exact x_zret (S := Unit) (post := (fun a (u : Unit) => (0 ≤ a ∧ a ≤ 1) ∧ (f_s_fits x1 x2 V J Rr) a)) (w1 := (fun _ : Unit => XW cy ad V J Rr)) (a := 1) C hr rfl dX11_fits_32 (by decide) () rfl ⟨⟨by decide, by decide⟩, hF _ rfl⟩
theorem hd_yJ7_fill_d0a16 : yJ7_fill_d0a16.cls ≠ "java/lang/invoke/MethodHandle" ∧ yJ7_fill_d0a16.cls ≠ "java/lang/invoke/VarHandle" ∧ (parseMethodDescriptor yJ7_fill_d0a16.desc).map (fun d => d.parameters.length) = some 2 := by decide +kernel
theorem dX11_fillOdds_0 : decode cX11_fillOdds 0 = .ok (.aload_n 0, 1) := by decide +kernel
theorem dX11_fillOdds_1 : decode cX11_fillOdds 1 = .ok (.getfield 66, 3) := by decide +kernel
theorem dX11_fillOdds_4 : decode cX11_fillOdds 4 = .ok (.lconst 0, 1) := by decide +kernel
theorem dX11_fillOdds_5 : decode cX11_fillOdds 5 = .ok (.invokestatic 388, 3) := by decide +kernel
theorem dX11_fillOdds_8 : decode cX11_fillOdds 8 = .ok (.aload_n 0, 1) := by decide +kernel
theorem dX11_fillOdds_9 : decode cX11_fillOdds 9 = .ok (.getfield 66, 3) := by decide +kernel
theorem dX11_fillOdds_12 : decode cX11_fillOdds 12 = .ok (.iconst 0, 1) := by decide +kernel
theorem dX11_fillOdds_13 : decode cX11_fillOdds 13 = .ok (.lconst 1, 1) := by decide +kernel
theorem dX11_fillOdds_14 : decode cX11_fillOdds 14 = .ok (.lastore, 1) := by decide +kernel
theorem dX11_fillOdds_15 : decode cX11_fillOdds 15 = .ok (.iconst 0, 1) := by decide +kernel
theorem dX11_fillOdds_16 : decode cX11_fillOdds 16 = .ok (.istore_n 2, 1) := by decide +kernel
theorem dX11_fillOdds_17 : decode cX11_fillOdds 17 = .ok (.iload_n 2, 1) := by decide +kernel
theorem dX11_fillOdds_18 : decode cX11_fillOdds 18 = .ok (.iload_n 1, 1) := by decide +kernel
theorem dX11_fillOdds_19 : decode cX11_fillOdds 19 = .ok (.if_icmp .ge 96, 3) := by decide +kernel
theorem dX11_fillOdds_22 : decode cX11_fillOdds 22 = .ok (.aload_n 0, 1) := by decide +kernel
theorem dX11_fillOdds_23 : decode cX11_fillOdds 23 = .ok (.getfield 25, 3) := by decide +kernel
theorem dX11_fillOdds_26 : decode cX11_fillOdds 26 = .ok (.iload_n 2, 1) := by decide +kernel
theorem dX11_fillOdds_27 : decode cX11_fillOdds 27 = .ok (.invokevirtual 385, 3) := by decide +kernel
theorem dX11_fillOdds_30 : decode cX11_fillOdds 30 = .ok (.istore_n 3, 1) := by decide +kernel
theorem dX11_fillOdds_31 : decode cX11_fillOdds 31 = .ok (.iload_n 3, 1) := by decide +kernel
theorem dX11_fillOdds_32 : decode cX11_fillOdds 32 = .ok (.iconst 0, 1) := by decide +kernel
theorem dX11_fillOdds_33 : decode cX11_fillOdds 33 = .ok (.bipush 10, 2) := by decide +kernel
theorem dX11_fillOdds_35 : decode cX11_fillOdds 35 = .ok (.invokestatic 74, 3) := by decide +kernel
theorem dX11_fillOdds_38 : decode cX11_fillOdds 38 = .ok (.ifCond .ne 5, 3) := by decide +kernel
theorem dX11_fillOdds_41 : decode cX11_fillOdds 41 = .ok (.iconst 0, 1) := by decide +kernel
theorem dX11_fillOdds_42 : decode cX11_fillOdds 42 = .ok (.ireturn, 1) := by decide +kernel
theorem dX11_fillOdds_43 : decode cX11_fillOdds 43 = .ok (.aload_n 0, 1) := by decide +kernel
theorem dX11_fillOdds_44 : decode cX11_fillOdds 44 = .ok (.getfield 66, 3) := by decide +kernel
theorem dX11_fillOdds_47 : decode cX11_fillOdds 47 = .ok (.arraylength, 1) := by decide +kernel
theorem dX11_fillOdds_48 : decode cX11_fillOdds 48 = .ok (.iconst 1, 1) := by decide +kernel
theorem dX11_fillOdds_49 : decode cX11_fillOdds 49 = .ok (.isub, 1) := by decide +kernel
theorem dX11_fillOdds_50 : decode cX11_fillOdds 50 = .ok (.istore 4, 2) := by decide +kernel
theorem dX11_fillOdds_52 : decode cX11_fillOdds 52 = .ok (.iload 4, 2) := by decide +kernel
theorem dX11_fillOdds_54 : decode cX11_fillOdds 54 = .ok (.ifCond .lt 55, 3) := by decide +kernel
theorem dX11_fillOdds_57 : decode cX11_fillOdds 57 = .ok (.iload 4, 2) := by decide +kernel
theorem dX11_fillOdds_59 : decode cX11_fillOdds 59 = .ok (.ifCond .le 15, 3) := by decide +kernel
theorem dX11_fillOdds_62 : decode cX11_fillOdds 62 = .ok (.aload_n 0, 1) := by decide +kernel
theorem dX11_fillOdds_63 : decode cX11_fillOdds 63 = .ok (.getfield 66, 3) := by decide +kernel
theorem dX11_fillOdds_66 : decode cX11_fillOdds 66 = .ok (.iload 4, 2) := by decide +kernel
theorem dX11_fillOdds_68 : decode cX11_fillOdds 68 = .ok (.iconst 1, 1) := by decide +kernel
theorem dX11_fillOdds_69 : decode cX11_fillOdds 69 = .ok (.isub, 1) := by decide +kernel
theorem dX11_fillOdds_70 : decode cX11_fillOdds 70 = .ok (.laload, 1) := by decide +kernel
theorem dX11_fillOdds_71 : decode cX11_fillOdds 71 = .ok (.goto 4, 3) := by decide +kernel
theorem dX11_fillOdds_74 : decode cX11_fillOdds 74 = .ok (.lconst 0, 1) := by decide +kernel
theorem dX11_fillOdds_75 : decode cX11_fillOdds 75 = .ok (.lstore 5, 2) := by decide +kernel
theorem dX11_fillOdds_77 : decode cX11_fillOdds 77 = .ok (.aload_n 0, 1) := by decide +kernel
theorem dX11_fillOdds_78 : decode cX11_fillOdds 78 = .ok (.getfield 66, 3) := by decide +kernel
theorem dX11_fillOdds_81 : decode cX11_fillOdds 81 = .ok (.iload 4, 2) := by decide +kernel
theorem dX11_fillOdds_83 : decode cX11_fillOdds 83 = .ok (.aload_n 0, 1) := by decide +kernel
theorem dX11_fillOdds_84 : decode cX11_fillOdds 84 = .ok (.getfield 66, 3) := by decide +kernel
theorem dX11_fillOdds_87 : decode cX11_fillOdds 87 = .ok (.iload 4, 2) := by decide +kernel
theorem dX11_fillOdds_89 : decode cX11_fillOdds 89 = .ok (.laload, 1) := by decide +kernel
theorem dX11_fillOdds_90 : decode cX11_fillOdds 90 = .ok (.bipush 10, 2) := by decide +kernel
theorem dX11_fillOdds_92 : decode cX11_fillOdds 92 = .ok (.iload_n 3, 1) := by decide +kernel
theorem dX11_fillOdds_93 : decode cX11_fillOdds 93 = .ok (.isub, 1) := by decide +kernel
theorem dX11_fillOdds_94 : decode cX11_fillOdds 94 = .ok (.i2l, 1) := by decide +kernel
theorem dX11_fillOdds_95 : decode cX11_fillOdds 95 = .ok (.lmul, 1) := by decide +kernel
theorem dX11_fillOdds_96 : decode cX11_fillOdds 96 = .ok (.lload 5, 2) := by decide +kernel
theorem dX11_fillOdds_98 : decode cX11_fillOdds 98 = .ok (.iload_n 3, 1) := by decide +kernel
theorem dX11_fillOdds_99 : decode cX11_fillOdds 99 = .ok (.i2l, 1) := by decide +kernel
theorem dX11_fillOdds_100 : decode cX11_fillOdds 100 = .ok (.lmul, 1) := by decide +kernel
theorem dX11_fillOdds_101 : decode cX11_fillOdds 101 = .ok (.ladd, 1) := by decide +kernel
theorem dX11_fillOdds_102 : decode cX11_fillOdds 102 = .ok (.lastore, 1) := by decide +kernel
theorem dX11_fillOdds_103 : decode cX11_fillOdds 103 = .ok (.iinc 4 (-1), 3) := by decide +kernel
theorem dX11_fillOdds_106 : decode cX11_fillOdds 106 = .ok (.goto (-54), 3) := by decide +kernel
theorem dX11_fillOdds_109 : decode cX11_fillOdds 109 = .ok (.iinc 2 1, 3) := by decide +kernel
theorem dX11_fillOdds_112 : decode cX11_fillOdds 112 = .ok (.goto (-95), 3) := by decide +kernel
theorem dX11_fillOdds_115 : decode cX11_fillOdds 115 = .ok (.iconst 1, 1) := by decide +kernel
theorem dX11_fillOdds_116 : decode cX11_fillOdds 116 = .ok (.ireturn, 1) := by decide +kernel
set_option maxRecDepth 100000 in
def f_s_fillOdds (x1 : Int) (V : Nat → Nat → Int) (J : Nat → Nat → Int) (Rr : Nat → Nat → Nat) : (Int × xS) → Prop :=
  calTX (fun _ _ => False) V (f_s_fillO 0 V J Rr) fun V1 J1 R1 => rdb (up2 J1 128 0 1) fun J2 => lop2 (2147483649) (fun rc608 (z607 : Int) (J608 : Nat → Nat → Int) => (if x1 ≤ z607 then rtn (1, (V1, J608, R1)) else calR (f_s_at z607 V1 J608 R1) fun z730 => calR (f_s_isWithin z730 0 10) fun z731 => fct (0 ≤ z731 ∧ z731 ≤ 1) <| (if ¬ z731 = 0 then lop2 (15) (fun rc806 (z805 : Int) (J806 : Nat → Nat → Int) => (if z805 < 0 then rc608 (z607 + 1) J806 else jnk (fun (z840 : Int) => rdb (J806 128 z805.toNat) fun z842 => rdb (wrJ (z842 * (-z730 + 10))) fun z843 => rdb (wrJ (z840 * z730)) fun z844 => rdb (wrJ (z843 + z844)) fun z845 => rdb (up2 J806 128 z805.toNat z845) fun J846 => rc806 (z805 - 1) J846) fun jf841 => (if z805 ≤ 0 then jf841 0 else rdb (J806 128 ((z805 - 1).toNat)) fun z848 => jf841 z848))) 12 J608 else rtn (0, (V1, J608, R1))))) 0 J2
set_option maxHeartbeats 8000000 in
set_option maxRecDepth 100000 in
theorem s_fillOdds (l : Launch) (D : va_G) (cy : Nat → ClassId) (ad : Nat → Nat) (G : Nat → Nat → Int) (V J : Nat → Nat → Int) (Rr : Nat → Nat → Nat) (hI : XI G V) (hJ : VJ J) (hR : XR Rr) (x1 : Int) (bx1 : -2147483648 ≤ x1 ∧ x1 ≤ 2147483647) : xMi l D (xTY cy) yX11_fillOdds cX11_fillOdds 7 (some .boolean) 1 24 0 0 [.ref (ad 0), vI x1] (XW cy ad V J Rr) (fun u : xS => XW cy ad u.1 u.2.1 u.2.2) (fun a (u : xS) => XS G u ∧ (0 ≤ a ∧ a ≤ 1) ∧ FB (fun _ _ => False) V u.1 ∧ RK u.2.2 Rr ∧ (f_s_fillOdds x1 V J Rr) (a, u)) := by
  refine xMi.mk (lv0 := [(0, .ref (ad 0)), (1, vI x1)]) (by decide) rfl (Nat.le_of_ble_eq_true rfl) (fun p e s m below meth c A C hr hnm hAe => ?_)
  have C : xC2 p s m _ meth c D A s.heap 7 cX11_fillOdds RX11 (xTY cy) := C
  have hB : FB (fun _ _ => False) V V := FB.rf _ _
  have hF := Imp.of_eq (f_s_fillOdds.eq_def x1 V J Rr)
  refine x_aload_n C.1 dX11_fillOdds_0 0 rfl ?_
  refine x_getA C (N := 129) (i := 0) (by decide) rfl vc_X11 wx_X11 11 (by decide) wf_X11_66 (a := 128) rfl dX11_fillOdds_1 ?_
  refine x_lconst0 C.1 dX11_fillOdds_4 ?_
  refine x_callSv C (As := [.ref (ad 128), vJ 0]) (rest := []) (s_fillO l D cy ad G V J Rr hI hJ hR 0 ⟨by decide, by decide⟩) (l1 := []) (l2 := []) (List.append_nil _).symm (w2 := fun u : xS => XW cy ad u.1 u.2.1 u.2.2) (fun _ => List.append_nil _) rfl wm_yJ7_fill_d0a16 wn_J7 wl_X11_388 wi_yJ7_fill_d0a16 hd_yJ7_fill_d0a16 rfl ⟨Nat.le_of_ble_eq_true rfl, Nat.le_of_ble_eq_true rfl⟩ (Nat.le_of_ble_eq_true rfl) ⟨Nat.le_of_ble_eq_true rfl, Nat.le_of_ble_eq_true rfl⟩ dX11_fillOdds_5 (fun u1 h1 => ?_)
  obtain ⟨V1, J1, R1⟩ := u1
  obtain ⟨hS1, hBc1, hEc1, hFc1⟩ := h1
  replace hF := calTX_i hF hFc1 hBc1
  have hB1 := hB.tr hBc1 (fun _ _ h => h.elim)
  have hE1 : RK R1 Rr := RK.tr (RK.rf _) hEc1
  obtain ⟨hI1, hJ1, hR1⟩ := hS1
  dsimp only at hI1 hJ1 hR1 ⊢
  refine x_aload_n C.1 dX11_fillOdds_8 0 rfl ?_
  refine x_getA C (N := 129) (i := 0) (by decide) rfl vc_X11 wx_X11 11 (by decide) wf_X11_66 (a := 128) rfl dX11_fillOdds_9 ?_
  refine x_iconst C.1 (n := 0) dX11_fillOdds_12 ?_
  refine x_lconst1 C.1 dX11_fillOdds_13 ?_
  refine x_last C (N := 129) (i := 128) (q := 0) (a := 1) (by decide) rfl (by decide) (by decide) dX11_fillOdds_14 ?_
  rw [show (0 : Int).toNat = 0 from rfl]
  refine x_gJ ?_
  intro J2 hJe2
  have hJ2 : VJ J2 := hJ1.upS hJe2 (by decide)
  replace hF := hF.to (rdb_e (z := J2) hJe2.symm)
  refine x_iconst C.1 (n := 0) dX11_fillOdds_15 ?_
  refine x_istore_n C.1 (lv' := [(2, vI 0), (0, .ref (ad 0)), (1, vI x1)]) dX11_fillOdds_16 (by decide) rfl ?_
  obtain ⟨bd608, hbd608, hF⟩ := lop2_ex hF
  refine x_loop (I := fun x : Int × (Nat → Nat → Int) => match x with | (z607, J608) => (0 ≤ z607 ∧ z607 ≤ 2147483647) ∧ VJ J608 ∧ (∃ nf : Nat, (2147483648 - z607).toNat < nf ∧ Imp (lop2 nf bd608 z607 J608) (f_s_fillOdds x1 V J Rr))) (μ := fun x : Int × (Nat → Nat → Int) => match x with | (z607, J608) => (2147483648 - z607).toNat) (wsf := fun x : Int × (Nat → Nat → Int) => match x with | (z607, J608) => XW cy ad V1 J608 R1) (lvf := fun x : Int × (Nat → Nat → Int) => match x with | (z607, J608) => [(2, vI z607), (0, .ref (ad 0)), (1, vI x1)]) (fun x hI608x ih608 => ?_) (0, J2) ⟨⟨by decide, by decide⟩, hJ2, ⟨_, (by omega), hF⟩⟩ rfl rfl
  obtain ⟨z607, J608⟩ := x
  obtain ⟨bz607, hJ608, nf608, hn608, hF⟩ := hI608x
  try dsimp only
  obtain ⟨nf608, rfl⟩ : ∃ mm, nf608 = mm + 1 := ⟨nf608 - 1, (Nat.succ_pred_eq_of_pos (Nat.lt_of_le_of_lt (Nat.zero_le _) hn608)).symm⟩
  replace hF := hF.to (lop2_s hbd608)
  refine x_iload_n C.1 dX11_fillOdds_17 0 rfl ?_
  refine x_iload_n C.1 dX11_fillOdds_18 2 rfl ?_
  refine x_icmp_ge C.1 (tgt := 115) dX11_fillOdds_19 (by decide) (by omega) (by omega) (fun hc729 => ?_) (fun hc729 => ?_)
  · replace hF := hF.to (if_pos hc729)
    refine x_iconst C.1 (n := 1) dX11_fillOdds_115 ?_
    exact x_zret (S := xS) (post := (fun a (u : xS) => XS G u ∧ (0 ≤ a ∧ a ≤ 1) ∧ FB (fun _ _ => False) V u.1 ∧ RK u.2.2 Rr ∧ (f_s_fillOdds x1 V J Rr) (a, u))) (w1 := (fun u : xS => XW cy ad u.1 u.2.1 u.2.2)) (a := 1) C hr rfl dX11_fillOdds_116 (by decide) (V1, J608, R1) rfl ⟨⟨hI1, hJ608, hR1⟩, ⟨by decide, by decide⟩, hB1, hE1, hF _ rfl⟩
  · replace hF := hF.to (if_neg hc729)
    refine x_aload_n C.1 dX11_fillOdds_22 1 rfl ?_
    refine x_getA C (N := 129) (i := 0) (by decide) rfl vc_X11 wx_X11 4 (by decide) wf_X11_25 (a := 58) rfl dX11_fillOdds_23 ?_
    refine x_iload_n C.1 dX11_fillOdds_26 0 rfl ?_
    refine x_callVi C (As := [vI z607]) (rest := []) 58 (xw_at (N := 129) (i := 58) (by decide) rfl) vc_X8 (s_at l D cy ad G V1 J608 R1 hI1 hJ608 hR1 z607 ⟨by omega, by omega⟩) (l1 := []) (l2 := []) (List.append_nil _).symm (w2 := fun _ => XW cy ad V1 J608 R1) (fun _ => List.append_nil _) rfl wm_yX8_at wn_X8 wl_X11_385 wi_yX8_at we_yX8_at hd_yX8_at rfl ⟨Nat.le_of_ble_eq_true rfl, Nat.le_of_ble_eq_true rfl⟩ (Nat.le_of_ble_eq_true rfl) ⟨Nat.le_of_ble_eq_true rfl, Nat.le_of_ble_eq_true rfl⟩ dX11_fillOdds_27 (fun z730 u730 bz730 h730 => ?_)
    have hFc730 := h730
    replace hF := calR_i hF hFc730
    refine x_istore_n C.1 (lv' := [(3, vI z730), (2, vI z607), (0, .ref (ad 0)), (1, vI x1)]) dX11_fillOdds_30 (by decide) rfl ?_
    refine x_iload_n C.1 dX11_fillOdds_31 0 rfl ?_
    refine x_iconst C.1 (n := 0) dX11_fillOdds_32 ?_
    refine x_bipush C.1 (n := 10) dX11_fillOdds_33 ?_
    refine x_callSi C (As := [vI z730, vI 0, vI 10]) (rest := []) (s_isWithin l D cy z730 ⟨by omega, by omega⟩ 0 ⟨by decide, by decide⟩ 10 ⟨by decide, by decide⟩) (l1 := []) (l2 := _) rfl (w2 := fun _ => _) (fun _ => rfl) rfl wm_yX11_isWithin wn_X11 wl_X11_74 wi_yX11_isWithin hd_yX11_isWithin rfl ⟨Nat.le_of_ble_eq_true rfl, Nat.le_of_ble_eq_true rfl⟩ (Nat.le_of_ble_eq_true rfl) ⟨Nat.le_of_ble_eq_true rfl, Nat.le_of_ble_eq_true rfl⟩ dX11_fillOdds_35 (fun z731 u731 bz731 h731 => ?_)
    obtain ⟨bq731, hx731_0, hFc731⟩ := h731
    replace hF := calR_i hF hFc731
    replace hF := hF.fc bq731
    refine x_if_ne C.1 (tgt := 43) dX11_fillOdds_38 (by decide) (by omega) (fun hc732 => ?_) (fun hc732 => ?_)
    · replace hF := hF.to (if_pos hc732)
      have hon733 := Sq.on hx731_0 (by omega)
      refine x_aload_n C.1 dX11_fillOdds_43 2 rfl ?_
      refine x_getA C (N := 129) (i := 0) (by decide) rfl vc_X11 wx_X11 11 (by decide) wf_X11_66 (a := 128) rfl dX11_fillOdds_44 ?_
      refine x_alenJ C (N := 129) (i := 128) (t := 1) rfl (by decide) rfl dX11_fillOdds_47 ?_
      refine x_iconst C.1 (n := 1) dX11_fillOdds_48 ?_
      refine x_isub C.1 (v := 12) (by decide) dX11_fillOdds_49 ?_
      refine x_istore C.1 (lv' := [(4, vI 12), (3, vI z730), (2, vI z607), (0, .ref (ad 0)), (1, vI x1)]) dX11_fillOdds_50 (by decide) rfl ?_
      obtain ⟨bd806, hbd806, hF⟩ := lop2_ex hF
      refine x_loop (I := fun x : Int × (Nat → Nat → Int) => match x with | (z805, J806) => (-1 ≤ z805 ∧ z805 ≤ 12) ∧ VJ J806 ∧ (∃ nf : Nat, (z805 - (-2)).toNat < nf ∧ Imp (lop2 nf bd806 z805 J806) (f_s_fillOdds x1 V J Rr))) (μ := fun x : Int × (Nat → Nat → Int) => match x with | (z805, J806) => (z805 - (-2)).toNat) (wsf := fun x : Int × (Nat → Nat → Int) => match x with | (z805, J806) => XW cy ad V1 J806 R1) (lvf := fun x : Int × (Nat → Nat → Int) => match x with | (z805, J806) => [(4, vI z805), (3, vI z730), (2, vI z607), (0, .ref (ad 0)), (1, vI x1)]) (fun x hI806x ih806 => ?_) (12, J608) ⟨⟨by decide, by decide⟩, hJ608, ⟨_, (by omega), hF⟩⟩ rfl rfl
      obtain ⟨z805, J806⟩ := x
      obtain ⟨bz805, hJ806, nf806, hn806, hF⟩ := hI806x
      try dsimp only
      obtain ⟨nf806, rfl⟩ : ∃ mm, nf806 = mm + 1 := ⟨nf806 - 1, (Nat.succ_pred_eq_of_pos (Nat.lt_of_le_of_lt (Nat.zero_le _) hn806)).symm⟩
      replace hF := hF.to (lop2_s hbd806)
      refine x_iload C.1 dX11_fillOdds_52 0 rfl ?_
      refine x_if_lt C.1 (tgt := 109) dX11_fillOdds_54 (by decide) (by omega) (fun hc838 => ?_) (fun hc838 => ?_)
      · replace hF := hF.to (if_pos hc838)
        refine x_iinc C.1 (v := z607 + 1) (lv' := [(2, vI (z607 + 1)), (4, vI z805), (3, vI z730), (0, .ref (ad 0)), (1, vI x1)]) (by omega) dX11_fillOdds_109 2 rfl (by decide) rfl ?_
        refine x_goto C.1 (tgt := 17) dX11_fillOdds_112 (by decide) ?_
        refine x_lv [(2, vI (z607 + 1)), (0, .ref (ad 0)), (1, vI x1)] [0, 3, 4] rfl ?_
        have hmu608 : (2147483648 - (z607 + 1)).toNat < (2147483648 - z607).toNat := (by omega)
        exact ih608 (z607 + 1, J806) ⟨⟨by omega, by omega⟩, hJ806, ⟨nf608, Nat.lt_of_lt_of_le hmu608 (Nat.le_of_lt_succ hn608), hF⟩⟩ hmu608
      · replace hF := hF.to (if_neg hc838)
        refine x_iload C.1 dX11_fillOdds_57 0 rfl ?_
        obtain ⟨jf841, hjf841, hF⟩ := jn_ex hF
        refine x_join (I := fun z840 : Int => (-9223372036854775808 ≤ z840 ∧ z840 ≤ 9223372036854775807) ∧ Imp (jf841 z840) (f_s_fillOdds x1 V J Rr)) (wsf := fun z840 : Int => XW cy ad V1 J806 R1) (lvf := fun z840 : Int => [(4, vI z805), (3, vI z730), (2, vI z607), (0, .ref (ad 0)), (1, vI x1)]) (stf := fun z840 : Int => [vJ z840]) 75 (fun z840 hI841x => ?_) (fun jn841 => ?_)
        · obtain ⟨bz840, hF⟩ := hI841x
          try dsimp only
          replace hF := hF.to (jn_s1 hjf841)
          refine x_lstore C.1 (lv' := [(5, vJ z840), (4, vI z805), (3, vI z730), (2, vI z607), (0, .ref (ad 0)), (1, vI x1)]) dX11_fillOdds_75 (by decide) rfl ?_
          refine x_aload_n C.1 dX11_fillOdds_77 4 rfl ?_
          refine x_getA C (N := 129) (i := 0) (by decide) rfl vc_X11 wx_X11 11 (by decide) wf_X11_66 (a := 128) rfl dX11_fillOdds_78 ?_
          refine x_iload C.1 dX11_fillOdds_81 1 rfl ?_
          refine x_aload_n C.1 dX11_fillOdds_83 4 rfl ?_
          refine x_getA C (N := 129) (i := 0) (by decide) rfl vc_X11 wx_X11 11 (by decide) wf_X11_66 (a := 128) rfl dX11_fillOdds_84 ?_
          refine x_iload C.1 dX11_fillOdds_87 1 rfl ?_
          obtain ⟨z842, ez842, bz842⟩ := hJ806.rd 128 z805.toNat
          replace hF := hF.to (rdb_e (z := z842) ez842)
          refine x_lald C (N := 129) (i := 128) (q := z805) (by decide) rfl (by omega) (by decide) dX11_fillOdds_89 (a := z842) ez842 ?_
          refine x_bipush C.1 (n := 10) dX11_fillOdds_90 ?_
          refine x_iload_n C.1 dX11_fillOdds_92 2 rfl ?_
          refine x_isub C.1 (v := -z730 + 10) (by omega) dX11_fillOdds_93 ?_
          refine x_i2l C.1 dX11_fillOdds_94 (by omega) ?_
          refine x_lmul C.1 rfl dX11_fillOdds_95 ?_
          refine x_wrapJg ?_
          intro z843 bz843 ew843
          replace hF := hF.to (rdb_e (z := z843) ew843.symm)
          refine x_lload C.1 dX11_fillOdds_96 0 rfl ?_
          refine x_iload_n C.1 dX11_fillOdds_98 2 rfl ?_
          refine x_i2l C.1 dX11_fillOdds_99 (by omega) ?_
          refine x_lmul C.1 rfl dX11_fillOdds_100 ?_
          refine x_wrapJg ?_
          intro z844 bz844 ew844
          replace hF := hF.to (rdb_e (z := z844) ew844.symm)
          refine x_ladd C.1 (v := z843 + z844) (by omega) dX11_fillOdds_101 ?_
          refine x_wrapJg ?_
          intro z845 bz845 ew845
          replace hF := hF.to (rdb_e (z := z845) ew845.symm)
          refine x_last C (N := 129) (i := 128) (q := z805) (a := z845) (by decide) rfl (by omega) (by decide) dX11_fillOdds_102 ?_
          refine x_gJ ?_
          intro J846 hJe846
          have hJ846 : VJ J846 := hJ806.upS hJe846 (by omega)
          replace hF := hF.to (rdb_e (z := J846) hJe846.symm)
          refine x_iinc C.1 (v := z805 - 1) (lv' := [(4, vI (z805 - 1)), (5, vJ z840), (3, vI z730), (2, vI z607), (0, .ref (ad 0)), (1, vI x1)]) (by omega) dX11_fillOdds_103 1 rfl (by decide) rfl ?_
          refine x_goto C.1 (tgt := 52) dX11_fillOdds_106 (by decide) ?_
          refine x_lv [(4, vI (z805 - 1)), (3, vI z730), (2, vI z607), (0, .ref (ad 0)), (1, vI x1)] [0, 2, 3, 4, 5] rfl ?_
          have hmu806 : ((z805 - 1) - (-2)).toNat < (z805 - (-2)).toNat := (by omega)
          exact ih806 (z805 - 1, J846) ⟨⟨by omega, by omega⟩, hJ846, ⟨nf806, Nat.lt_of_lt_of_le hmu806 (Nat.le_of_lt_succ hn806), hF⟩⟩ hmu806
        · refine x_if_le C.1 (tgt := 74) dX11_fillOdds_59 (by decide) (by omega) (fun hc847 => ?_) (fun hc847 => ?_)
          · replace hF := hF.to (if_pos hc847)
            refine x_lconst0 C.1 dX11_fillOdds_74 ?_
            exact jn841 0 ⟨⟨by decide, by decide⟩, hF⟩
          · replace hF := hF.to (if_neg hc847)
            refine x_aload_n C.1 dX11_fillOdds_62 3 rfl ?_
            refine x_getA C (N := 129) (i := 0) (by decide) rfl vc_X11 wx_X11 11 (by decide) wf_X11_66 (a := 128) rfl dX11_fillOdds_63 ?_
            refine x_iload C.1 dX11_fillOdds_66 0 rfl ?_
            refine x_iconst C.1 (n := 1) dX11_fillOdds_68 ?_
            refine x_isub C.1 (v := z805 - 1) (by omega) dX11_fillOdds_69 ?_
            obtain ⟨z848, ez848, bz848⟩ := hJ806.rd 128 ((z805 - 1).toNat)
            replace hF := hF.to (rdb_e (z := z848) ez848)
            refine x_lald C (N := 129) (i := 128) (q := z805 - 1) (by decide) rfl (by omega) (by decide) dX11_fillOdds_70 (a := z848) ez848 ?_
            refine x_goto C.1 (tgt := 75) dX11_fillOdds_71 (by decide) ?_
            exact jn841 z848 ⟨⟨by omega, by omega⟩, hF⟩
    · replace hF := hF.to (if_neg (fun hh => hh hc732))
      refine x_iconst C.1 (n := 0) dX11_fillOdds_41 ?_
      exact x_zret (S := xS) (post := (fun a (u : xS) => XS G u ∧ (0 ≤ a ∧ a ≤ 1) ∧ FB (fun _ _ => False) V u.1 ∧ RK u.2.2 Rr ∧ (f_s_fillOdds x1 V J Rr) (a, u))) (w1 := (fun u : xS => XW cy ad u.1 u.2.1 u.2.2)) (a := 0) C hr rfl dX11_fillOdds_42 (by decide) (V1, J608, R1) rfl ⟨⟨hI1, hJ608, hR1⟩, ⟨by decide, by decide⟩, hB1, hE1, hF _ rfl⟩
