theorem dX12_types_0 : decode cX12_types 0 = .ok (.iconst 3, 1) := by decide +kernel
theorem dX12_types_1 : decode cX12_types 1 = .ok (.istore_n 2, 1) := by decide +kernel
theorem dX12_types_2 : decode cX12_types 2 = .ok (.iload_n 2, 1) := by decide +kernel
theorem dX12_types_3 : decode cX12_types 3 = .ok (.ifCond .lt 35, 3) := by decide +kernel
theorem dX12_types_6 : decode cX12_types 6 = .ok (.aload_n 0, 1) := by decide +kernel
theorem dX12_types_7 : decode cX12_types 7 = .ok (.getfield 19, 3) := by decide +kernel
theorem dX12_types_10 : decode cX12_types 10 = .ok (.aload_n 0, 1) := by decide +kernel
theorem dX12_types_11 : decode cX12_types 11 = .ok (.getfield 137, 3) := by decide +kernel
theorem dX12_types_14 : decode cX12_types 14 = .ok (.iload_n 1, 1) := by decide +kernel
theorem dX12_types_15 : decode cX12_types 15 = .ok (.bipush 8, 2) := by decide +kernel
theorem dX12_types_17 : decode cX12_types 17 = .ok (.iload_n 2, 1) := by decide +kernel
theorem dX12_types_18 : decode cX12_types 18 = .ok (.imul, 1) := by decide +kernel
theorem dX12_types_19 : decode cX12_types 19 = .ok (.ishr, 1) := by decide +kernel
theorem dX12_types_20 : decode cX12_types 20 = .ok (.i2b, 1) := by decide +kernel
theorem dX12_types_21 : decode cX12_types 21 = .ok (.bastore, 1) := by decide +kernel
theorem dX12_types_22 : decode cX12_types 22 = .ok (.aload_n 0, 1) := by decide +kernel
theorem dX12_types_23 : decode cX12_types 23 = .ok (.aload_n 0, 1) := by decide +kernel
theorem dX12_types_24 : decode cX12_types 24 = .ok (.getfield 137, 3) := by decide +kernel
theorem dX12_types_27 : decode cX12_types 27 = .ok (.iconst 1, 1) := by decide +kernel
theorem dX12_types_28 : decode cX12_types 28 = .ok (.iadd, 1) := by decide +kernel
theorem dX12_types_29 : decode cX12_types 29 = .ok (.putfield 137, 3) := by decide +kernel
theorem dX12_types_32 : decode cX12_types 32 = .ok (.iinc 2 (-1), 3) := by decide +kernel
theorem dX12_types_35 : decode cX12_types 35 = .ok (.goto (-33), 3) := by decide +kernel
theorem dX12_types_38 : decode cX12_types 38 = .ok (.return_, 1) := by decide +kernel
set_option maxRecDepth 100000 in
def f_m_types (x1 : Int) (V : Nat → Nat → Int) (J : Nat → Nat → Int) (Rr : Nat → Nat → Nat) : (Nat → Nat → Int) → Prop :=
  lop2 (6) (fun rc39 (z38 : Int) (V39 : Nat → Nat → Int) => (if z38 < 0 then rtn V39 else rdb (V39 0 4) fun z47 => fct (0 ≤ z47 ∧ z47 ≤ 220) <| rdb (iShr x1 (8 * z38)) fun z48 => rdb (iB z48) fun z49 => fct (-128 ≤ z49 ∧ z49 ≤ 127) <| rdb (up2 V39 4 z47.toNat z49) fun V50 => rdb (up2 V50 0 4 (z47 + 1)) fun V51 => rc39 (z38 - 1) V51)) 3 V
set_option maxHeartbeats 8000000 in
set_option maxRecDepth 100000 in
theorem m_types (l : Launch) (D : va_G) (cy : Nat → ClassId) (ad : Nat → Nat) (G : Nat → Nat → Int) (V J : Nat → Nat → Int) (Rr : Nat → Nat → Nat) (hI : MI G V) (hJ : VJ J) (hR : MR Rr) (x1 : Int) (bx1 : -2147483648 ≤ x1 ∧ x1 ≤ 2147483647) (htp : V 0 4 ≤ 216) : xMv l D (xTY cy) yX12_types cX12_types 3 none 0 0 0 0 [.ref (ad 0), vI x1] (MW cy ad V J Rr) (fun u : Nat → Nat → Int => MW cy ad u J Rr) (fun u : Nat → Nat → Int => MI G u ∧ u 0 4 = V 0 4 + 4 ∧ FBm 295147905179352825872 V u ∧ (f_m_types x1 V J Rr) u) := by
  refine xMv.mk (lv0 := [(0, .ref (ad 0)), (1, vI x1)]) (by decide) rfl (Nat.le_of_ble_eq_true rfl) (fun p e s m below meth c A C hr hnm hAe => ?_)
  have C : xC2 p s m _ meth c D A s.heap 3 cX12_types RX12 (xTY cy) := C
  have hB : FBm 295147905179352825872 V V := FBm.rf _ _
  have hF := Imp.of_eq (f_m_types.eq_def x1 V J Rr)
  refine x_iconst C.1 (n := 3) dX12_types_0 ?_
  refine x_istore_n C.1 (lv' := [(2, vI 3), (0, .ref (ad 0)), (1, vI x1)]) dX12_types_1 (by decide) rfl ?_
  obtain ⟨bd39, hbd39, hF⟩ := lop2_ex hF
  refine x_loop (I := fun x : Int × (Nat → Nat → Int) => match x with | (z38, V39) => (-1 ≤ z38 ∧ z38 ≤ 3) ∧ MI G V39 ∧ FBm 295147905179352825872 V V39 ∧ V39 0 4 + z38 = V 0 4 + 3 ∧ (∃ nf : Nat, (z38 - (-2)).toNat < nf ∧ Imp (lop2 nf bd39 z38 V39) (f_m_types x1 V J Rr))) (μ := fun x : Int × (Nat → Nat → Int) => match x with | (z38, V39) => (z38 - (-2)).toNat) (wsf := fun x : Int × (Nat → Nat → Int) => match x with | (z38, V39) => MW cy ad V39 J Rr) (lvf := fun x : Int × (Nat → Nat → Int) => match x with | (z38, V39) => [(2, vI z38), (0, .ref (ad 0)), (1, vI x1)]) (fun x hI39x ih39 => ?_) (3, V) ⟨⟨by decide, by decide⟩, hI, hB, (by omega), ⟨_, (by omega), hF⟩⟩ rfl rfl
  obtain ⟨z38, V39⟩ := x
  obtain ⟨bz38, hI39, hB39, htl, nf39, hn39, hF⟩ := hI39x
  try dsimp only
  obtain ⟨nf39, rfl⟩ : ∃ mm, nf39 = mm + 1 := ⟨nf39 - 1, (Nat.succ_pred_eq_of_pos (Nat.lt_of_le_of_lt (Nat.zero_le _) hn39)).symm⟩
  replace hF := hF.to (lop2_s hbd39)
  refine x_iload_n C.1 dX12_types_2 0 rfl ?_
  refine x_if_lt C.1 (tgt := 38) dX12_types_3 (by decide) (by omega) (fun hc46 => ?_) (fun hc46 => ?_)
  · replace hF := hF.to (if_pos hc46)
    exact x_vret (S := (Nat → Nat → Int)) (post := (fun u : Nat → Nat → Int => MI G u ∧ u 0 4 = V 0 4 + 4 ∧ FBm 295147905179352825872 V u ∧ (f_m_types x1 V J Rr) u)) (w1 := (fun u : Nat → Nat → Int => MW cy ad u J Rr)) C hr rfl dX12_types_38 V39 rfl ⟨hI39, (by omega), hB39, hF _ rfl⟩
  · replace hF := hF.to (if_neg hc46)
    refine x_aload_n C.1 dX12_types_6 1 rfl ?_
    refine x_getA C (N := 33) (i := 0) (by decide) rfl vc_X12 wx_X12 3 (by decide) wf_X12_19 (a := 4) rfl dX12_types_7 ?_
    refine x_aload_n C.1 dX12_types_10 1 rfl ?_
    obtain ⟨z47, ez47, bz47⟩ := hI39.rd 0 4 (x := 0) (y := 220) rfl
    replace hF := hF.to (rdb_e (z := z47) ez47)
    replace hF := hF.fc bz47
    refine x_getI C (N := 33) (i := 0) (by decide) rfl vc_X12 wx_X12 4 (by decide) wf_X12_137 rfl dX12_types_11 (a := z47) ez47 ?_
    refine x_iload_n C.1 dX12_types_14 2 rfl ?_
    refine x_bipush C.1 (n := 8) dX12_types_15 ?_
    refine x_iload_n C.1 dX12_types_17 0 rfl ?_
    refine x_imul C.1 (v := 8 * z38) (by omega) dX12_types_18 ?_
    obtain ⟨z48, hz48, bz48⟩ : ∃ z : Int, iShr x1 (8 * z38) = z ∧ (-2147483648 ≤ z ∧ z ≤ 2147483647) := ⟨_, rfl, xi_r _⟩
    replace hF := hF.to (rdb_e (z := z48) hz48)
    refine x_ishr C.1 (v := z48) hz48 dX12_types_19 ?_
    refine x_i2b C.1 dX12_types_20 ?_
    obtain ⟨z49, hz49, bz49⟩ : ∃ z : Int, iB z48 = z ∧ (-128 ≤ z ∧ z ≤ 127) := ⟨_, rfl, iB_r _⟩
    rw [hz49]
    replace hF := hF.to (rdb_e (z := z49) hz49)
    replace hF := hF.fc bz49
    refine x_bast C (N := 33) (i := 4) (q := z47) (a := z49) (by decide) rfl (by omega) (by decide) (iB_nar2 (by omega)) dX12_types_21 ?_
    refine x_gV ?_
    intro V50 hV50
    have hI50 : MI G V50 := hI39.up hV50 rfl (by omega) rfl (Or.inl (by decide))
    have hB50 := hB39.up hV50 (by rw [mkey_r (by decide)]; rfl)
    replace hF := hF.to (rdb_e (z := V50) hV50.symm)
    refine x_aload_n C.1 dX12_types_22 1 rfl ?_
    refine x_aload_n C.1 dX12_types_23 1 rfl ?_
    refine x_getI C (N := 33) (i := 0) (by decide) rfl vc_X12 wx_X12 4 (by decide) wf_X12_137 rfl dX12_types_24 (a := z47) ((congrFun (congrFun hV50 0) 4).trans ((up2_n _ _ (Or.inl (by decide))).trans ez47)) ?_
    refine x_iconst C.1 (n := 1) dX12_types_27 ?_
    refine x_iadd C.1 (v := z47 + 1) (by omega) dX12_types_28 ?_
    refine x_putI C (N := 33) (i := 0) (by decide) rfl vc_X12 wx_X12 4 (by decide) wf_X12_137 tyX12 tyX12_ok nmX12 rfl (tyX12_ok 4 (by decide)) rfl dX12_types_29 rfl rfl ?_
    refine x_gV ?_
    intro V51 hV51
    have hI51 : MI G V51 := hI50.up hV51 rfl (by omega) rfl (Or.inl (by decide))
    have hB51 := hB50.up hV51 rfl
    replace hF := hF.to (rdb_e (z := V51) hV51.symm)
    refine x_iinc C.1 (v := z38 - 1) (lv' := [(2, vI (z38 - 1)), (0, .ref (ad 0)), (1, vI x1)]) (by omega) dX12_types_32 0 rfl (by decide) rfl ?_
    refine x_goto C.1 (tgt := 2) dX12_types_35 (by decide) ?_
    have hmu39 : ((z38 - 1) - (-2)).toNat < (z38 - (-2)).toNat := (by omega)
    exact ih39 (z38 - 1, V51) ⟨⟨by omega, by omega⟩, hI51, hB51, (by have hq := ((congrFun (congrFun hV51 0) 4).trans (up2_s _ _ _ _)); omega), ⟨nf39, Nat.lt_of_lt_of_le hmu39 (Nat.le_of_lt_succ hn39), hF⟩⟩ hmu39
theorem hd_yX12_types : yX12_types.cls ≠ "java/lang/invoke/MethodHandle" ∧ yX12_types.cls ≠ "java/lang/invoke/VarHandle" ∧ (parseMethodDescriptor yX12_types.desc).map (fun d => d.parameters.length) = some 1 := by decide +kernel
theorem dX12_feed_0 : decode cX12_feed 0 = .ok (.aload_n 0, 1) := by decide +kernel
theorem dX12_feed_1 : decode cX12_feed 1 = .ok (.getfield 137, 3) := by decide +kernel
theorem dX12_feed_4 : decode cX12_feed 4 = .ok (.bipush 20, 2) := by decide +kernel
theorem dX12_feed_6 : decode cX12_feed 6 = .ok (.iadd, 1) := by decide +kernel
theorem dX12_feed_7 : decode cX12_feed 7 = .ok (.sipush 220, 3) := by decide +kernel
theorem dX12_feed_10 : decode cX12_feed 10 = .ok (.if_icmp .le 5, 3) := by decide +kernel
theorem dX12_feed_13 : decode cX12_feed 13 = .ok (.iconst (-1), 1) := by decide +kernel
theorem dX12_feed_14 : decode cX12_feed 14 = .ok (.ireturn, 1) := by decide +kernel
theorem dX12_feed_15 : decode cX12_feed 15 = .ok (.aload_n 0, 1) := by decide +kernel
theorem dX12_feed_16 : decode cX12_feed 16 = .ok (.iload_n 1, 1) := by decide +kernel
theorem dX12_feed_17 : decode cX12_feed 17 = .ok (.invokevirtual 140, 3) := by decide +kernel
theorem dX12_feed_20 : decode cX12_feed 20 = .ok (.aload_n 0, 1) := by decide +kernel
theorem dX12_feed_21 : decode cX12_feed 21 = .ok (.iload_n 2, 1) := by decide +kernel
theorem dX12_feed_22 : decode cX12_feed 22 = .ok (.invokevirtual 140, 3) := by decide +kernel
theorem dX12_feed_25 : decode cX12_feed 25 = .ok (.aload_n 0, 1) := by decide +kernel
theorem dX12_feed_26 : decode cX12_feed 26 = .ok (.iload_n 3, 1) := by decide +kernel
theorem dX12_feed_27 : decode cX12_feed 27 = .ok (.invokevirtual 140, 3) := by decide +kernel
theorem dX12_feed_30 : decode cX12_feed 30 = .ok (.aload_n 0, 1) := by decide +kernel
theorem dX12_feed_31 : decode cX12_feed 31 = .ok (.iload 4, 2) := by decide +kernel
theorem dX12_feed_33 : decode cX12_feed 33 = .ok (.invokevirtual 140, 3) := by decide +kernel
theorem dX12_feed_36 : decode cX12_feed 36 = .ok (.aload_n 0, 1) := by decide +kernel
theorem dX12_feed_37 : decode cX12_feed 37 = .ok (.iload 5, 2) := by decide +kernel
theorem dX12_feed_39 : decode cX12_feed 39 = .ok (.invokevirtual 140, 3) := by decide +kernel
theorem dX12_feed_42 : decode cX12_feed 42 = .ok (.aload_n 0, 1) := by decide +kernel
theorem dX12_feed_43 : decode cX12_feed 43 = .ok (.getfield 137, 3) := by decide +kernel
theorem dX12_feed_46 : decode cX12_feed 46 = .ok (.ireturn, 1) := by decide +kernel
set_option maxRecDepth 100000 in
def f_m_feed (x1 : Int) (x2 : Int) (x3 : Int) (x4 : Int) (x5 : Int) (V : Nat → Nat → Int) (J : Nat → Nat → Int) (Rr : Nat → Nat → Nat) : (Int × (Nat → Nat → Int)) → Prop :=
  rdb (V 0 4) fun z1 => fct (0 ≤ z1 ∧ z1 ≤ 220) <| (if z1 + 20 ≤ 220 then calUM 295147905179352825872 V (f_m_types x1 V J Rr) fun V3 => calUM 295147905179352825872 V3 (f_m_types x2 V3 J Rr) fun V4 => calUM 295147905179352825872 V4 (f_m_types x3 V4 J Rr) fun V5 => calUM 295147905179352825872 V5 (f_m_types x4 V5 J Rr) fun V6 => calUM 295147905179352825872 V6 (f_m_types x5 V6 J Rr) fun V7 => rdb (V7 0 4) fun z8 => fct (0 ≤ z8 ∧ z8 ≤ 220) <| rtn (z8, V7) else rtn ((-1), V))
set_option maxHeartbeats 8000000 in
set_option maxRecDepth 100000 in
theorem m_feed (l : Launch) (D : va_G) (cy : Nat → ClassId) (ad : Nat → Nat) (G : Nat → Nat → Int) (V J : Nat → Nat → Int) (Rr : Nat → Nat → Nat) (hI : MI G V) (hJ : VJ J) (hR : MR Rr) (x1 : Int) (bx1 : -2147483648 ≤ x1 ∧ x1 ≤ 2147483647) (x2 : Int) (bx2 : -2147483648 ≤ x2 ∧ x2 ≤ 2147483647) (x3 : Int) (bx3 : -2147483648 ≤ x3 ∧ x3 ≤ 2147483647) (x4 : Int) (bx4 : -2147483648 ≤ x4 ∧ x4 ≤ 2147483647) (x5 : Int) (bx5 : -2147483648 ≤ x5 ∧ x5 ≤ 2147483647) : xMi l D (xTY cy) yX12_feed cX12_feed 6 (some .int) 1 22 0 0 [.ref (ad 0), vI x1, vI x2, vI x3, vI x4, vI x5] (MW cy ad V J Rr) (fun u : Nat → Nat → Int => MW cy ad u J Rr) (fun a (u : Nat → Nat → Int) => MI G u ∧ FBm 295147905179352825872 V u ∧ (f_m_feed x1 x2 x3 x4 x5 V J Rr) (a, u)) := by
  refine xMi.mk (lv0 := [(0, .ref (ad 0)), (1, vI x1), (2, vI x2), (3, vI x3), (4, vI x4), (5, vI x5)]) (by decide) rfl (Nat.le_of_ble_eq_true rfl) (fun p e s m below meth c A C hr hnm hAe => ?_)
  have C : xC2 p s m _ meth c D A s.heap 6 cX12_feed RX12 (xTY cy) := C
  have hB : FBm 295147905179352825872 V V := FBm.rf _ _
  have hF := Imp.of_eq (f_m_feed.eq_def x1 x2 x3 x4 x5 V J Rr)
  refine x_aload_n C.1 dX12_feed_0 0 rfl ?_
  obtain ⟨z1, ez1, bz1⟩ := hI.rd 0 4 (x := 0) (y := 220) rfl
  replace hF := hF.to (rdb_e (z := z1) ez1)
  replace hF := hF.fc bz1
  refine x_getI C (N := 33) (i := 0) (by decide) rfl vc_X12 wx_X12 4 (by decide) wf_X12_137 rfl dX12_feed_1 (a := z1) ez1 ?_
  refine x_bipush C.1 (n := 20) dX12_feed_4 ?_
  refine x_iadd C.1 (v := z1 + 20) (by omega) dX12_feed_6 ?_
  refine x_sipush C.1 (n := 220) dX12_feed_7 ?_
  refine x_icmp_le C.1 (tgt := 15) dX12_feed_10 (by decide) (by omega) (by decide) (fun hc2 => ?_) (fun hc2 => ?_)
  · replace hF := hF.to (if_pos hc2)
    refine x_aload_n C.1 dX12_feed_15 0 rfl ?_
    refine x_iload_n C.1 dX12_feed_16 1 rfl ?_
    refine x_callVv C (As := [vI x1]) (rest := []) 0 (xw_at (N := 33) (i := 0) (by decide) rfl) vc_X12 (m_types l D cy ad G V J Rr hI hJ hR x1 ⟨by omega, by omega⟩ (by omega)) (l1 := []) (l2 := []) (List.append_nil _).symm (w2 := fun u : Nat → Nat → Int => MW cy ad u J Rr) (fun _ => List.append_nil _) rfl wm_yX12_types wn_X12 wl_X12_140 wi_yX12_types we_yX12_types hd_yX12_types rfl ⟨Nat.le_of_ble_eq_true rfl, Nat.le_of_ble_eq_true rfl⟩ (Nat.le_of_ble_eq_true rfl) ⟨Nat.le_of_ble_eq_true rfl, Nat.le_of_ble_eq_true rfl⟩ dX12_feed_17 (fun V3 h3 => ?_)
    obtain ⟨hI3, hx3_0, hBc3, hFc3⟩ := h3
    replace hF := calUM_i hF hFc3 hBc3
    have hB3 := hB.tr hBc3 (m := 295147905179352825872) rfl
    refine x_aload_n C.1 dX12_feed_20 0 rfl ?_
    refine x_iload_n C.1 dX12_feed_21 2 rfl ?_
    refine x_callVv C (As := [vI x2]) (rest := []) 0 (xw_at (N := 33) (i := 0) (by decide) rfl) vc_X12 (m_types l D cy ad G V3 J Rr hI3 hJ hR x2 ⟨by omega, by omega⟩ (by omega)) (l1 := []) (l2 := []) (List.append_nil _).symm (w2 := fun u : Nat → Nat → Int => MW cy ad u J Rr) (fun _ => List.append_nil _) rfl wm_yX12_types wn_X12 wl_X12_140 wi_yX12_types we_yX12_types hd_yX12_types rfl ⟨Nat.le_of_ble_eq_true rfl, Nat.le_of_ble_eq_true rfl⟩ (Nat.le_of_ble_eq_true rfl) ⟨Nat.le_of_ble_eq_true rfl, Nat.le_of_ble_eq_true rfl⟩ dX12_feed_22 (fun V4 h4 => ?_)
    obtain ⟨hI4, hx4_0, hBc4, hFc4⟩ := h4
    replace hF := calUM_i hF hFc4 hBc4
    have hB4 := hB3.tr hBc4 (m := 295147905179352825872) rfl
    refine x_aload_n C.1 dX12_feed_25 0 rfl ?_
    refine x_iload_n C.1 dX12_feed_26 3 rfl ?_
    refine x_callVv C (As := [vI x3]) (rest := []) 0 (xw_at (N := 33) (i := 0) (by decide) rfl) vc_X12 (m_types l D cy ad G V4 J Rr hI4 hJ hR x3 ⟨by omega, by omega⟩ (by omega)) (l1 := []) (l2 := []) (List.append_nil _).symm (w2 := fun u : Nat → Nat → Int => MW cy ad u J Rr) (fun _ => List.append_nil _) rfl wm_yX12_types wn_X12 wl_X12_140 wi_yX12_types we_yX12_types hd_yX12_types rfl ⟨Nat.le_of_ble_eq_true rfl, Nat.le_of_ble_eq_true rfl⟩ (Nat.le_of_ble_eq_true rfl) ⟨Nat.le_of_ble_eq_true rfl, Nat.le_of_ble_eq_true rfl⟩ dX12_feed_27 (fun V5 h5 => ?_)
    obtain ⟨hI5, hx5_0, hBc5, hFc5⟩ := h5
    replace hF := calUM_i hF hFc5 hBc5
    have hB5 := hB4.tr hBc5 (m := 295147905179352825872) rfl
    refine x_aload_n C.1 dX12_feed_30 0 rfl ?_
    refine x_iload C.1 dX12_feed_31 4 rfl ?_
    refine x_callVv C (As := [vI x4]) (rest := []) 0 (xw_at (N := 33) (i := 0) (by decide) rfl) vc_X12 (m_types l D cy ad G V5 J Rr hI5 hJ hR x4 ⟨by omega, by omega⟩ (by omega)) (l1 := []) (l2 := []) (List.append_nil _).symm (w2 := fun u : Nat → Nat → Int => MW cy ad u J Rr) (fun _ => List.append_nil _) rfl wm_yX12_types wn_X12 wl_X12_140 wi_yX12_types we_yX12_types hd_yX12_types rfl ⟨Nat.le_of_ble_eq_true rfl, Nat.le_of_ble_eq_true rfl⟩ (Nat.le_of_ble_eq_true rfl) ⟨Nat.le_of_ble_eq_true rfl, Nat.le_of_ble_eq_true rfl⟩ dX12_feed_33 (fun V6 h6 => ?_)
    obtain ⟨hI6, hx6_0, hBc6, hFc6⟩ := h6
    replace hF := calUM_i hF hFc6 hBc6
    have hB6 := hB5.tr hBc6 (m := 295147905179352825872) rfl
    refine x_aload_n C.1 dX12_feed_36 0 rfl ?_
    refine x_iload C.1 dX12_feed_37 5 rfl ?_
    refine x_callVv C (As := [vI x5]) (rest := []) 0 (xw_at (N := 33) (i := 0) (by decide) rfl) vc_X12 (m_types l D cy ad G V6 J Rr hI6 hJ hR x5 ⟨by omega, by omega⟩ (by omega)) (l1 := []) (l2 := []) (List.append_nil _).symm (w2 := fun u : Nat → Nat → Int => MW cy ad u J Rr) (fun _ => List.append_nil _) rfl wm_yX12_types wn_X12 wl_X12_140 wi_yX12_types we_yX12_types hd_yX12_types rfl ⟨Nat.le_of_ble_eq_true rfl, Nat.le_of_ble_eq_true rfl⟩ (Nat.le_of_ble_eq_true rfl) ⟨Nat.le_of_ble_eq_true rfl, Nat.le_of_ble_eq_true rfl⟩ dX12_feed_39 (fun V7 h7 => ?_)
    obtain ⟨hI7, hx7_0, hBc7, hFc7⟩ := h7
    replace hF := calUM_i hF hFc7 hBc7
    have hB7 := hB6.tr hBc7 (m := 295147905179352825872) rfl
    refine x_aload_n C.1 dX12_feed_42 0 rfl ?_
    obtain ⟨z8, ez8, bz8⟩ := hI7.rd 0 4 (x := 0) (y := 220) rfl
    replace hF := hF.to (rdb_e (z := z8) ez8)
    replace hF := hF.fc bz8
    refine x_getI C (N := 33) (i := 0) (by decide) rfl vc_X12 wx_X12 4 (by decide) wf_X12_137 rfl dX12_feed_43 (a := z8) ez8 ?_
    exact x_iret (S := (Nat → Nat → Int)) (post := (fun a (u : Nat → Nat → Int) => MI G u ∧ FBm 295147905179352825872 V u ∧ (f_m_feed x1 x2 x3 x4 x5 V J Rr) (a, u))) (w1 := (fun u : Nat → Nat → Int => MW cy ad u J Rr)) (a := z8) C hr rfl dX12_feed_46 (by omega) V7 rfl ⟨hI7, hB7, hF _ rfl⟩
  · replace hF := hF.to (if_neg hc2)
    refine x_iconst C.1 (n := -1) dX12_feed_13 ?_
    exact x_iret (S := (Nat → Nat → Int)) (post := (fun a (u : Nat → Nat → Int) => MI G u ∧ FBm 295147905179352825872 V u ∧ (f_m_feed x1 x2 x3 x4 x5 V J Rr) (a, u))) (w1 := (fun u : Nat → Nat → Int => MW cy ad u J Rr)) (a := (-1)) C hr rfl dX12_feed_14 (by decide) V rfl ⟨hI, hB, hF _ rfl⟩
