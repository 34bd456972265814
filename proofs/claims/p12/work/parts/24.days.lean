theorem hd_yX0_ask : yX0_ask.cls ≠ "java/lang/invoke/MethodHandle" ∧ yX0_ask.cls ≠ "java/lang/invoke/VarHandle" ∧ (parseMethodDescriptor yX0_ask.desc).map (fun d => d.parameters.length) = some 3 := by decide +kernel
theorem hd_yX0_of : yX0_of.cls ≠ "java/lang/invoke/MethodHandle" ∧ yX0_of.cls ≠ "java/lang/invoke/VarHandle" ∧ (parseMethodDescriptor yX0_of.desc).map (fun d => d.parameters.length) = some 3 := by decide +kernel
theorem hd_yX0_onDay : yX0_onDay.cls ≠ "java/lang/invoke/MethodHandle" ∧ yX0_onDay.cls ≠ "java/lang/invoke/VarHandle" ∧ (parseMethodDescriptor yX0_onDay.desc).map (fun d => d.parameters.length) = some 2 := by decide +kernel
theorem dX1_gift_0 : decode cX1_gift 0 = .ok (.aload_n 1, 1) := by decide +kernel
theorem dX1_gift_1 : decode cX1_gift 1 = .ok (.getfield 57, 3) := by decide +kernel
theorem dX1_gift_4 : decode cX1_gift 4 = .ok (.iload_n 2, 1) := by decide +kernel
theorem dX1_gift_5 : decode cX1_gift 5 = .ok (.aaload, 1) := by decide +kernel
theorem dX1_gift_6 : decode cX1_gift 6 = .ok (.astore 4, 2) := by decide +kernel
theorem dX1_gift_8 : decode cX1_gift 8 = .ok (.aload_n 0, 1) := by decide +kernel
theorem dX1_gift_9 : decode cX1_gift 9 = .ok (.getfield 32, 3) := by decide +kernel
theorem dX1_gift_12 : decode cX1_gift 12 = .ok (.aload_n 1, 1) := by decide +kernel
theorem dX1_gift_13 : decode cX1_gift 13 = .ok (.getfield 63, 3) := by decide +kernel
theorem dX1_gift_16 : decode cX1_gift 16 = .ok (.aload_n 1, 1) := by decide +kernel
theorem dX1_gift_17 : decode cX1_gift 17 = .ok (.getfield 67, 3) := by decide +kernel
theorem dX1_gift_20 : decode cX1_gift 20 = .ok (.invokevirtual 70, 3) := by decide +kernel
theorem dX1_gift_23 : decode cX1_gift 23 = .ok (.aload_n 0, 1) := by decide +kernel
theorem dX1_gift_24 : decode cX1_gift 24 = .ok (.getfield 32, 3) := by decide +kernel
theorem dX1_gift_27 : decode cX1_gift 27 = .ok (.aload_n 1, 1) := by decide +kernel
theorem dX1_gift_28 : decode cX1_gift 28 = .ok (.getfield 74, 3) := by decide +kernel
theorem dX1_gift_31 : decode cX1_gift 31 = .ok (.iload_n 3, 1) := by decide +kernel
theorem dX1_gift_32 : decode cX1_gift 32 = .ok (.aaload, 1) := by decide +kernel
theorem dX1_gift_33 : decode cX1_gift 33 = .ok (.iload_n 3, 1) := by decide +kernel
theorem dX1_gift_34 : decode cX1_gift 34 = .ok (.aload_n 1, 1) := by decide +kernel
theorem dX1_gift_35 : decode cX1_gift 35 = .ok (.getfield 63, 3) := by decide +kernel
theorem dX1_gift_38 : decode cX1_gift 38 = .ok (.invokevirtual 78, 3) := by decide +kernel
theorem dX1_gift_41 : decode cX1_gift 41 = .ok (.aload_n 0, 1) := by decide +kernel
theorem dX1_gift_42 : decode cX1_gift 42 = .ok (.getfield 32, 3) := by decide +kernel
theorem dX1_gift_45 : decode cX1_gift 45 = .ok (.iload_n 2, 1) := by decide +kernel
theorem dX1_gift_46 : decode cX1_gift 46 = .ok (.aload 4, 2) := by decide +kernel
theorem dX1_gift_48 : decode cX1_gift 48 = .ok (.getfield 82, 3) := by decide +kernel
theorem dX1_gift_51 : decode cX1_gift 51 = .ok (.aload 4, 2) := by decide +kernel
theorem dX1_gift_53 : decode cX1_gift 53 = .ok (.getfield 87, 3) := by decide +kernel
theorem dX1_gift_56 : decode cX1_gift 56 = .ok (.invokevirtual 90, 3) := by decide +kernel
theorem dX1_gift_59 : decode cX1_gift 59 = .ok (.aload_n 0, 1) := by decide +kernel
theorem dX1_gift_60 : decode cX1_gift 60 = .ok (.getfield 32, 3) := by decide +kernel
theorem dX1_gift_63 : decode cX1_gift 63 = .ok (.aload_n 0, 1) := by decide +kernel
theorem dX1_gift_64 : decode cX1_gift 64 = .ok (.getfield 18, 3) := by decide +kernel
theorem dX1_gift_67 : decode cX1_gift 67 = .ok (.aload 4, 2) := by decide +kernel
theorem dX1_gift_69 : decode cX1_gift 69 = .ok (.getfield 94, 3) := by decide +kernel
theorem dX1_gift_72 : decode cX1_gift 72 = .ok (.aaload, 1) := by decide +kernel
theorem dX1_gift_73 : decode cX1_gift 73 = .ok (.bipush 103, 2) := by decide +kernel
theorem dX1_gift_75 : decode cX1_gift 75 = .ok (.bipush 9, 2) := by decide +kernel
theorem dX1_gift_77 : decode cX1_gift 77 = .ok (.invokevirtual 97, 3) := by decide +kernel
theorem dX1_gift_80 : decode cX1_gift 80 = .ok (.ireturn, 1) := by decide +kernel
set_option maxRecDepth 100000 in
def f_s_gift (k1 : Nat) (x2 : Int) (x3 : Int) (V : Nat → Nat → Int) (J : Nat → Nat → Int) (Rr : Nat → Nat → Nat) : (Int × (Nat → Nat → Int)) → Prop :=
  rdb (k1 + 11 + 1 * x2.toNat) fun c1 => rdb (V k1 3) fun z2 => rdb (V k1 2) fun z3 => calUX (fun i k : Nat => (69 ≤ i ∧ i ≤ 71)) V (f_s_onDay z2 z3 V J Rr) fun V4 => rdb (k1 + 3 + 2 * x3.toNat) fun c5 => rdb (V4 k1 3) fun z6 => calUX (fun i k : Nat => (69 ≤ i ∧ i ≤ 71)) V4 (f_s_of c5 x3 z6 V4 J Rr) fun V7 => rdb (V7 c1 1) fun z8 => rdb (V7 c1 3) fun z9 => calUX (fun i k : Nat => (69 ≤ i ∧ i ≤ 71)) V7 (f_s_by x2 z8 z9 V7 J Rr) fun V10 => rdb (V10 c1 2) fun z11 => fct (0 ≤ z11 ∧ z11 ≤ 3) <| rdb (Rr 66 z11.toNat) fun t12 => calVX (fun i k : Nat => (69 ≤ i ∧ i ≤ 71)) V10 (f_s_ask t12 103 9 V10 J Rr) fun z13 V13 => fct (0 ≤ z13 ∧ z13 ≤ 999) <| rtn (z13, V13)
set_option maxHeartbeats 8000000 in
set_option maxRecDepth 100000 in
theorem s_gift (l : Launch) (D : va_G) (cy : Nat → ClassId) (ad : Nat → Nat) (G : Nat → Nat → Int) (V J : Nat → Nat → Int) (Rr : Nat → Nat → Nat) (hI : XI G V) (hJ : VJ J) (hR : XR Rr) (k1 : Nat) (hk1 : isLa k1) (x2 : Int) (bx2 : 0 ≤ x2 ∧ x2 ≤ 7) (x3 : Int) (bx3 : 0 ≤ x3 ∧ x3 ≤ 3) : xMi l D (xTY cy) yX1_gift cX1_gift 5 (some .int) 3 76 0 0 [.ref (ad 60), .ref (ad k1), vI x2, vI x3] (XW cy ad V J Rr) (fun u : Nat → Nat → Int => XW cy ad u J Rr) (fun a (u : Nat → Nat → Int) => XI G u ∧ (0 ≤ a ∧ a ≤ 999) ∧ FB (fun i k : Nat => (69 ≤ i ∧ i ≤ 71)) V u ∧ (f_s_gift k1 x2 x3 V J Rr) (a, u)) := by
  refine xMi.mk (lv0 := [(0, .ref (ad 60)), (1, .ref (ad k1)), (2, vI x2), (3, vI x3)]) (by decide) rfl (Nat.le_of_ble_eq_true rfl) (fun p e s m below meth c A C hr hnm hAe => ?_)
  have C : xC2 p s m _ meth c D A s.heap 5 cX1_gift RX1 (xTY cy) := C
  have hB : FB (fun i k : Nat => (69 ≤ i ∧ i ≤ 71)) V V := FB.rf _ _
  have hF := Imp.of_eq (f_s_gift.eq_def k1 x2 x3 V J Rr)
  refine x_aload_n C.1 dX1_gift_0 1 rfl ?_
  refine x_getA C (N := 129) (i := k1) (by omega) (xd_L hk1) vc_X3 wx_X3 1 (by decide) wf_X1_57 (a := k1 + 2) rfl dX1_gift_1 ?_
  refine x_iload_n C.1 dX1_gift_4 2 rfl ?_
  obtain ⟨c1, ec1, hc1⟩ : ∃ cx : Nat, k1 + 11 + 1 * x2.toNat = cx ∧ isPe cx := ⟨_, rfl, isPe_L hk1 (by omega)⟩
  replace hF := hF.to (rdb_e (z := c1) ec1)
  refine x_aldS C (N := 129) (i := k1 + 2) (q := x2) (t := 5) rfl (by omega) (xd_Lb hk1) (by omega) (by decide) dX1_gift_5 (a := c1) ec1 ?_
  refine x_astore C.1 (lv' := [(4, .ref (ad c1)), (0, .ref (ad 60)), (1, .ref (ad k1)), (2, vI x2), (3, vI x3)]) dX1_gift_6 (by decide) rfl ?_
  refine x_aload_n C.1 dX1_gift_8 1 rfl ?_
  refine x_getA C (N := 129) (i := 60) (by decide) rfl vc_X1 wx_X1 4 (by decide) wf_X1_32 (a := 69) rfl dX1_gift_9 ?_
  refine x_aload_n C.1 dX1_gift_12 2 rfl ?_
  obtain ⟨z2, ez2, bz2⟩ := hI.rd k1 3 (x := -2147483648) (y := 2147483647) (rg_L hk1 _)
  replace hF := hF.to (rdb_e (z := z2) ez2)
  refine x_getI C (N := 129) (i := k1) (by omega) (xd_L hk1) vc_X3 wx_X3 3 (by decide) wf_X1_63 rfl dX1_gift_13 (a := z2) ez2 ?_
  refine x_aload_n C.1 dX1_gift_16 2 rfl ?_
  obtain ⟨z3, ez3, bz3⟩ := hI.rd k1 2 (x := -2147483648) (y := 2147483647) (rg_L hk1 _)
  replace hF := hF.to (rdb_e (z := z3) ez3)
  refine x_getI C (N := 129) (i := k1) (by omega) (xd_L hk1) vc_X3 wx_X3 2 (by decide) wf_X1_67 rfl dX1_gift_17 (a := z3) ez3 ?_
  refine x_callVv C (As := [vI z2, vI z3]) (rest := []) 69 (xw_at (N := 129) (i := 69) (by decide) rfl) vc_X0 (s_onDay l D cy ad G V J Rr hI hJ hR z2 ⟨by omega, by omega⟩ z3 ⟨by omega, by omega⟩) (l1 := []) (l2 := []) (List.append_nil _).symm (w2 := fun u : Nat → Nat → Int => XW cy ad u J Rr) (fun _ => List.append_nil _) rfl wm_yX0_onDay wn_X0 wl_X1_70 wi_yX0_onDay we_yX0_onDay hd_yX0_onDay rfl ⟨Nat.le_of_ble_eq_true rfl, Nat.le_of_ble_eq_true rfl⟩ (Nat.le_of_ble_eq_true rfl) ⟨Nat.le_of_ble_eq_true rfl, Nat.le_of_ble_eq_true rfl⟩ dX1_gift_20 (fun V4 h4 => ?_)
  obtain ⟨hI4, hBc4, hFc4⟩ := h4
  replace hF := calUX_i hF hFc4 hBc4
  have hB4 := hB.tr hBc4 (fun i k h => (h))
  refine x_aload_n C.1 dX1_gift_23 1 rfl ?_
  refine x_getA C (N := 129) (i := 60) (by decide) rfl vc_X1 wx_X1 4 (by decide) wf_X1_32 (a := 69) rfl dX1_gift_24 ?_
  refine x_aload_n C.1 dX1_gift_27 2 rfl ?_
  refine x_getA C (N := 129) (i := k1) (by omega) (xd_L hk1) vc_X3 wx_X3 0 (by decide) wf_X1_74 (a := k1 + 1) rfl dX1_gift_28 ?_
  refine x_iload_n C.1 dX1_gift_31 4 rfl ?_
  obtain ⟨c5, ec5, hc5⟩ : ∃ cx : Nat, k1 + 3 + 2 * x3.toNat = cx ∧ isPl cx := ⟨_, rfl, isPl_L hk1 (by omega)⟩
  replace hF := hF.to (rdb_e (z := c5) ec5)
  refine x_aldS C (N := 129) (i := k1 + 1) (q := x3) (t := 4) rfl (by omega) (xd_La hk1) (by omega) (by decide) dX1_gift_32 (a := c5) ec5 ?_
  refine x_iload_n C.1 dX1_gift_33 4 rfl ?_
  refine x_aload_n C.1 dX1_gift_34 2 rfl ?_
  obtain ⟨z6, ez6, bz6⟩ := hI4.rd k1 3 (x := -2147483648) (y := 2147483647) (rg_L hk1 _)
  replace hF := hF.to (rdb_e (z := z6) ez6)
  refine x_getI C (N := 129) (i := k1) (by omega) (xd_L hk1) vc_X3 wx_X3 3 (by decide) wf_X1_63 rfl dX1_gift_35 (a := z6) ez6 ?_
  refine x_callVv C (As := [.ref (ad c5), vI x3, vI z6]) (rest := []) 69 (xw_at (N := 129) (i := 69) (by decide) rfl) vc_X0 (s_of l D cy ad G V4 J Rr hI4 hJ hR c5 hc5 x3 ⟨by omega, by omega⟩ z6 ⟨by omega, by omega⟩) (l1 := []) (l2 := []) (List.append_nil _).symm (w2 := fun u : Nat → Nat → Int => XW cy ad u J Rr) (fun _ => List.append_nil _) rfl wm_yX0_of wn_X0 wl_X1_78 wi_yX0_of we_yX0_of hd_yX0_of rfl ⟨Nat.le_of_ble_eq_true rfl, Nat.le_of_ble_eq_true rfl⟩ (Nat.le_of_ble_eq_true rfl) ⟨Nat.le_of_ble_eq_true rfl, Nat.le_of_ble_eq_true rfl⟩ dX1_gift_38 (fun V7 h7 => ?_)
  obtain ⟨hI7, hBc7, hFc7⟩ := h7
  replace hF := calUX_i hF hFc7 hBc7
  have hB7 := hB4.tr hBc7 (fun i k h => (h))
  refine x_aload_n C.1 dX1_gift_41 1 rfl ?_
  refine x_getA C (N := 129) (i := 60) (by decide) rfl vc_X1 wx_X1 4 (by decide) wf_X1_32 (a := 69) rfl dX1_gift_42 ?_
  refine x_iload_n C.1 dX1_gift_45 3 rfl ?_
  refine x_aload C.1 dX1_gift_46 0 rfl ?_
  obtain ⟨z8, ez8, bz8⟩ := hI7.rd c1 1 (x := -2147483648) (y := 2147483647) (rg_E hc1 1)
  replace hF := hF.to (rdb_e (z := z8) ez8)
  refine x_getI C (N := 129) (i := c1) hc1.1 hc1.2 vc_X4 wx_X4 1 (by decide) wf_X1_82 rfl dX1_gift_48 (a := z8) ez8 ?_
  refine x_aload C.1 dX1_gift_51 0 rfl ?_
  obtain ⟨z9, ez9, bz9⟩ := hI7.rd c1 3 (x := -2147483648) (y := 2147483647) (rg_E hc1 3)
  replace hF := hF.to (rdb_e (z := z9) ez9)
  refine x_getI C (N := 129) (i := c1) hc1.1 hc1.2 vc_X4 wx_X4 3 (by decide) wf_X1_87 rfl dX1_gift_53 (a := z9) ez9 ?_
  refine x_callVv C (As := [vI x2, vI z8, vI z9]) (rest := []) 69 (xw_at (N := 129) (i := 69) (by decide) rfl) vc_X0 (s_by l D cy ad G V7 J Rr hI7 hJ hR x2 ⟨by omega, by omega⟩ z8 ⟨by omega, by omega⟩ z9 ⟨by omega, by omega⟩) (l1 := []) (l2 := []) (List.append_nil _).symm (w2 := fun u : Nat → Nat → Int => XW cy ad u J Rr) (fun _ => List.append_nil _) rfl wm_yX0_by wn_X0 wl_X1_90 wi_yX0_by we_yX0_by hd_yX0_by rfl ⟨Nat.le_of_ble_eq_true rfl, Nat.le_of_ble_eq_true rfl⟩ (Nat.le_of_ble_eq_true rfl) ⟨Nat.le_of_ble_eq_true rfl, Nat.le_of_ble_eq_true rfl⟩ dX1_gift_56 (fun V10 h10 => ?_)
  obtain ⟨hI10, hBc10, hFc10⟩ := h10
  replace hF := calUX_i hF hFc10 hBc10
  have hB10 := hB7.tr hBc10 (fun i k h => (h))
  refine x_aload_n C.1 dX1_gift_59 1 rfl ?_
  refine x_getA C (N := 129) (i := 60) (by decide) rfl vc_X1 wx_X1 4 (by decide) wf_X1_32 (a := 69) rfl dX1_gift_60 ?_
  refine x_aload_n C.1 dX1_gift_63 1 rfl ?_
  refine x_getA C (N := 129) (i := 60) (by decide) rfl vc_X1 wx_X1 1 (by decide) wf_X1_18 (a := 66) rfl dX1_gift_64 ?_
  refine x_aload C.1 dX1_gift_67 0 rfl ?_
  obtain ⟨z11, ez11, bz11⟩ := hI10.rd c1 2 (x := 0) (y := 3) (rg_E hc1 2)
  replace hF := hF.to (rdb_e (z := z11) ez11)
  replace hF := hF.fc bz11
  refine x_getI C (N := 129) (i := c1) hc1.1 hc1.2 vc_X4 wx_X4 2 (by decide) wf_X1_94 rfl dX1_gift_69 (a := z11) ez11 ?_
  obtain ⟨t12, et12, ht12⟩ := hR.rule (k := z11.toNat) (by omega)
  replace hF := hF.to (rdb_e (z := t12) et12)
  refine x_aldR C (N := 129) (i := 66) (q := z11) (t := 6) rfl (by decide) rfl (by omega) (by decide) dX1_gift_72 (a := t12) et12 ?_
  refine x_bipush C.1 (n := 103) dX1_gift_73 ?_
  refine x_bipush C.1 (n := 9) dX1_gift_75 ?_
  refine x_callVi C (As := [.ref (ad t12), vI 103, vI 9]) (rest := []) 69 (xw_at (N := 129) (i := 69) (by decide) rfl) vc_X0 (s_ask l D cy ad G V10 J Rr hI10 hJ hR t12 ht12 103 ⟨by decide, by decide⟩ 9 ⟨by decide, by decide⟩) (l1 := []) (l2 := []) (List.append_nil _).symm (w2 := fun u : Nat → Nat → Int => XW cy ad u J Rr) (fun _ => List.append_nil _) rfl wm_yX0_ask wn_X0 wl_X1_97 wi_yX0_ask we_yX0_ask hd_yX0_ask rfl ⟨Nat.le_of_ble_eq_true rfl, Nat.le_of_ble_eq_true rfl⟩ (Nat.le_of_ble_eq_true rfl) ⟨Nat.le_of_ble_eq_true rfl, Nat.le_of_ble_eq_true rfl⟩ dX1_gift_77 (fun z13 V13 bz13 h13 => ?_)
  obtain ⟨hI13, bq13, hBc13, hFc13⟩ := h13
  replace hF := calVX_i hF hFc13 hBc13
  replace hF := hF.fc bq13
  have hB13 := hB10.tr hBc13 (fun i k h => (h))
  exact x_iret (S := (Nat → Nat → Int)) (post := (fun a (u : Nat → Nat → Int) => XI G u ∧ (0 ≤ a ∧ a ≤ 999) ∧ FB (fun i k : Nat => (69 ≤ i ∧ i ≤ 71)) V u ∧ (f_s_gift k1 x2 x3 V J Rr) (a, u))) (w1 := (fun u : Nat → Nat → Int => XW cy ad u J Rr)) (a := z13) C hr rfl dX1_gift_80 (by omega) V13 rfl ⟨hI13, ⟨by omega, by omega⟩, hB13, hF _ rfl⟩
theorem hd_yX0_byNobody : yX0_byNobody.cls ≠ "java/lang/invoke/MethodHandle" ∧ yX0_byNobody.cls ≠ "java/lang/invoke/VarHandle" ∧ (parseMethodDescriptor yX0_byNobody.desc).map (fun d => d.parameters.length) = some 0 := by decide +kernel
theorem dX1_goes_0 : decode cX1_goes 0 = .ok (.aload_n 0, 1) := by decide +kernel
theorem dX1_goes_1 : decode cX1_goes 1 = .ok (.getfield 32, 3) := by decide +kernel
theorem dX1_goes_4 : decode cX1_goes 4 = .ok (.aload_n 1, 1) := by decide +kernel
theorem dX1_goes_5 : decode cX1_goes 5 = .ok (.getfield 63, 3) := by decide +kernel
theorem dX1_goes_8 : decode cX1_goes 8 = .ok (.aload_n 1, 1) := by decide +kernel
theorem dX1_goes_9 : decode cX1_goes 9 = .ok (.getfield 67, 3) := by decide +kernel
theorem dX1_goes_12 : decode cX1_goes 12 = .ok (.invokevirtual 70, 3) := by decide +kernel
theorem dX1_goes_15 : decode cX1_goes 15 = .ok (.aload_n 0, 1) := by decide +kernel
theorem dX1_goes_16 : decode cX1_goes 16 = .ok (.getfield 32, 3) := by decide +kernel
theorem dX1_goes_19 : decode cX1_goes 19 = .ok (.aload_n 1, 1) := by decide +kernel
theorem dX1_goes_20 : decode cX1_goes 20 = .ok (.getfield 74, 3) := by decide +kernel
theorem dX1_goes_23 : decode cX1_goes 23 = .ok (.iload_n 2, 1) := by decide +kernel
theorem dX1_goes_24 : decode cX1_goes 24 = .ok (.aaload, 1) := by decide +kernel
theorem dX1_goes_25 : decode cX1_goes 25 = .ok (.iload_n 2, 1) := by decide +kernel
theorem dX1_goes_26 : decode cX1_goes 26 = .ok (.aload_n 1, 1) := by decide +kernel
theorem dX1_goes_27 : decode cX1_goes 27 = .ok (.getfield 63, 3) := by decide +kernel
theorem dX1_goes_30 : decode cX1_goes 30 = .ok (.invokevirtual 78, 3) := by decide +kernel
theorem dX1_goes_33 : decode cX1_goes 33 = .ok (.aload_n 0, 1) := by decide +kernel
theorem dX1_goes_34 : decode cX1_goes 34 = .ok (.getfield 32, 3) := by decide +kernel
theorem dX1_goes_37 : decode cX1_goes 37 = .ok (.invokevirtual 101, 3) := by decide +kernel
theorem dX1_goes_40 : decode cX1_goes 40 = .ok (.aload_n 0, 1) := by decide +kernel
theorem dX1_goes_41 : decode cX1_goes 41 = .ok (.getfield 32, 3) := by decide +kernel
theorem dX1_goes_44 : decode cX1_goes 44 = .ok (.aload_n 0, 1) := by decide +kernel
theorem dX1_goes_45 : decode cX1_goes 45 = .ok (.getfield 12, 3) := by decide +kernel
theorem dX1_goes_48 : decode cX1_goes 48 = .ok (.iload_n 3, 1) := by decide +kernel
theorem dX1_goes_49 : decode cX1_goes 49 = .ok (.bipush 9, 2) := by decide +kernel
theorem dX1_goes_51 : decode cX1_goes 51 = .ok (.invokevirtual 97, 3) := by decide +kernel
theorem dX1_goes_54 : decode cX1_goes 54 = .ok (.ireturn, 1) := by decide +kernel
set_option maxRecDepth 100000 in
def f_s_goes (k1 : Nat) (x2 : Int) (x3 : Int) (V : Nat → Nat → Int) (J : Nat → Nat → Int) (Rr : Nat → Nat → Nat) : (Int × (Nat → Nat → Int)) → Prop :=
  rdb (V k1 3) fun z1 => rdb (V k1 2) fun z2 => calUX (fun i k : Nat => (69 ≤ i ∧ i ≤ 71)) V (f_s_onDay z1 z2 V J Rr) fun V3 => rdb (k1 + 3 + 2 * x2.toNat) fun c4 => rdb (V3 k1 3) fun z5 => calUX (fun i k : Nat => (69 ≤ i ∧ i ≤ 71)) V3 (f_s_of c4 x2 z5 V3 J Rr) fun V6 => calUX (fun i k : Nat => (69 ≤ i ∧ i ≤ 71)) V6 (f_s_byNobody V6 J Rr) fun V7 => rdb (Rr 60 0) fun t8 => calVX (fun i k : Nat => (69 ≤ i ∧ i ≤ 71)) V7 (f_s_ask t8 x3 9 V7 J Rr) fun z9 V9 => fct (0 ≤ z9 ∧ z9 ≤ 999) <| rtn (z9, V9)
set_option maxHeartbeats 8000000 in
set_option maxRecDepth 100000 in
theorem s_goes (l : Launch) (D : va_G) (cy : Nat → ClassId) (ad : Nat → Nat) (G : Nat → Nat → Int) (V J : Nat → Nat → Int) (Rr : Nat → Nat → Nat) (hI : XI G V) (hJ : VJ J) (hR : XR Rr) (k1 : Nat) (hk1 : isLa k1) (x2 : Int) (bx2 : 0 ≤ x2 ∧ x2 ≤ 3) (x3 : Int) (bx3 : 0 ≤ x3 ∧ x3 ≤ 65535) : xMi l D (xTY cy) yX1_goes cX1_goes 4 (some .int) 3 76 0 0 [.ref (ad 60), .ref (ad k1), vI x2, vI x3] (XW cy ad V J Rr) (fun u : Nat → Nat → Int => XW cy ad u J Rr) (fun a (u : Nat → Nat → Int) => XI G u ∧ (0 ≤ a ∧ a ≤ 999) ∧ FB (fun i k : Nat => (69 ≤ i ∧ i ≤ 71)) V u ∧ (f_s_goes k1 x2 x3 V J Rr) (a, u)) := by
  refine xMi.mk (lv0 := [(0, .ref (ad 60)), (1, .ref (ad k1)), (2, vI x2), (3, vI x3)]) (by decide) rfl (Nat.le_of_ble_eq_true rfl) (fun p e s m below meth c A C hr hnm hAe => ?_)
  have C : xC2 p s m _ meth c D A s.heap 4 cX1_goes RX1 (xTY cy) := C
  have hB : FB (fun i k : Nat => (69 ≤ i ∧ i ≤ 71)) V V := FB.rf _ _
  have hF := Imp.of_eq (f_s_goes.eq_def k1 x2 x3 V J Rr)
  refine x_aload_n C.1 dX1_goes_0 0 rfl ?_
  refine x_getA C (N := 129) (i := 60) (by decide) rfl vc_X1 wx_X1 4 (by decide) wf_X1_32 (a := 69) rfl dX1_goes_1 ?_
  refine x_aload_n C.1 dX1_goes_4 1 rfl ?_
  obtain ⟨z1, ez1, bz1⟩ := hI.rd k1 3 (x := -2147483648) (y := 2147483647) (rg_L hk1 _)
  replace hF := hF.to (rdb_e (z := z1) ez1)
  refine x_getI C (N := 129) (i := k1) (by omega) (xd_L hk1) vc_X3 wx_X3 3 (by decide) wf_X1_63 rfl dX1_goes_5 (a := z1) ez1 ?_
  refine x_aload_n C.1 dX1_goes_8 1 rfl ?_
  obtain ⟨z2, ez2, bz2⟩ := hI.rd k1 2 (x := -2147483648) (y := 2147483647) (rg_L hk1 _)
  replace hF := hF.to (rdb_e (z := z2) ez2)
  refine x_getI C (N := 129) (i := k1) (by omega) (xd_L hk1) vc_X3 wx_X3 2 (by decide) wf_X1_67 rfl dX1_goes_9 (a := z2) ez2 ?_
  refine x_callVv C (As := [vI z1, vI z2]) (rest := []) 69 (xw_at (N := 129) (i := 69) (by decide) rfl) vc_X0 (s_onDay l D cy ad G V J Rr hI hJ hR z1 ⟨by omega, by omega⟩ z2 ⟨by omega, by omega⟩) (l1 := []) (l2 := []) (List.append_nil _).symm (w2 := fun u : Nat → Nat → Int => XW cy ad u J Rr) (fun _ => List.append_nil _) rfl wm_yX0_onDay wn_X0 wl_X1_70 wi_yX0_onDay we_yX0_onDay hd_yX0_onDay rfl ⟨Nat.le_of_ble_eq_true rfl, Nat.le_of_ble_eq_true rfl⟩ (Nat.le_of_ble_eq_true rfl) ⟨Nat.le_of_ble_eq_true rfl, Nat.le_of_ble_eq_true rfl⟩ dX1_goes_12 (fun V3 h3 => ?_)
  obtain ⟨hI3, hBc3, hFc3⟩ := h3
  replace hF := calUX_i hF hFc3 hBc3
  have hB3 := hB.tr hBc3 (fun i k h => (h))
  refine x_aload_n C.1 dX1_goes_15 0 rfl ?_
  refine x_getA C (N := 129) (i := 60) (by decide) rfl vc_X1 wx_X1 4 (by decide) wf_X1_32 (a := 69) rfl dX1_goes_16 ?_
  refine x_aload_n C.1 dX1_goes_19 1 rfl ?_
  refine x_getA C (N := 129) (i := k1) (by omega) (xd_L hk1) vc_X3 wx_X3 0 (by decide) wf_X1_74 (a := k1 + 1) rfl dX1_goes_20 ?_
  refine x_iload_n C.1 dX1_goes_23 2 rfl ?_
  obtain ⟨c4, ec4, hc4⟩ : ∃ cx : Nat, k1 + 3 + 2 * x2.toNat = cx ∧ isPl cx := ⟨_, rfl, isPl_L hk1 (by omega)⟩
  replace hF := hF.to (rdb_e (z := c4) ec4)
  refine x_aldS C (N := 129) (i := k1 + 1) (q := x2) (t := 4) rfl (by omega) (xd_La hk1) (by omega) (by decide) dX1_goes_24 (a := c4) ec4 ?_
  refine x_iload_n C.1 dX1_goes_25 2 rfl ?_
  refine x_aload_n C.1 dX1_goes_26 1 rfl ?_
  obtain ⟨z5, ez5, bz5⟩ := hI3.rd k1 3 (x := -2147483648) (y := 2147483647) (rg_L hk1 _)
  replace hF := hF.to (rdb_e (z := z5) ez5)
  refine x_getI C (N := 129) (i := k1) (by omega) (xd_L hk1) vc_X3 wx_X3 3 (by decide) wf_X1_63 rfl dX1_goes_27 (a := z5) ez5 ?_
  refine x_callVv C (As := [.ref (ad c4), vI x2, vI z5]) (rest := []) 69 (xw_at (N := 129) (i := 69) (by decide) rfl) vc_X0 (s_of l D cy ad G V3 J Rr hI3 hJ hR c4 hc4 x2 ⟨by omega, by omega⟩ z5 ⟨by omega, by omega⟩) (l1 := []) (l2 := []) (List.append_nil _).symm (w2 := fun u : Nat → Nat → Int => XW cy ad u J Rr) (fun _ => List.append_nil _) rfl wm_yX0_of wn_X0 wl_X1_78 wi_yX0_of we_yX0_of hd_yX0_of rfl ⟨Nat.le_of_ble_eq_true rfl, Nat.le_of_ble_eq_true rfl⟩ (Nat.le_of_ble_eq_true rfl) ⟨Nat.le_of_ble_eq_true rfl, Nat.le_of_ble_eq_true rfl⟩ dX1_goes_30 (fun V6 h6 => ?_)
  obtain ⟨hI6, hBc6, hFc6⟩ := h6
  replace hF := calUX_i hF hFc6 hBc6
  have hB6 := hB3.tr hBc6 (fun i k h => (h))
  refine x_aload_n C.1 dX1_goes_33 0 rfl ?_
  refine x_getA C (N := 129) (i := 60) (by decide) rfl vc_X1 wx_X1 4 (by decide) wf_X1_32 (a := 69) rfl dX1_goes_34 ?_
  refine x_callVv C (As := []) (rest := []) 69 (xw_at (N := 129) (i := 69) (by decide) rfl) vc_X0 (s_byNobody l D cy ad G V6 J Rr hI6 hJ hR ) (l1 := []) (l2 := []) (List.append_nil _).symm (w2 := fun u : Nat → Nat → Int => XW cy ad u J Rr) (fun _ => List.append_nil _) rfl wm_yX0_byNobody wn_X0 wl_X1_101 wi_yX0_byNobody we_yX0_byNobody hd_yX0_byNobody rfl ⟨Nat.le_of_ble_eq_true rfl, Nat.le_of_ble_eq_true rfl⟩ (Nat.le_of_ble_eq_true rfl) ⟨Nat.le_of_ble_eq_true rfl, Nat.le_of_ble_eq_true rfl⟩ dX1_goes_37 (fun V7 h7 => ?_)
  obtain ⟨hI7, hBc7, hFc7⟩ := h7
  replace hF := calUX_i hF hFc7 hBc7
  have hB7 := hB6.tr hBc7 (fun i k h => (h))
  refine x_aload_n C.1 dX1_goes_40 0 rfl ?_
  refine x_getA C (N := 129) (i := 60) (by decide) rfl vc_X1 wx_X1 4 (by decide) wf_X1_32 (a := 69) rfl dX1_goes_41 ?_
  refine x_aload_n C.1 dX1_goes_44 0 rfl ?_
  obtain ⟨t8, et8, ht8⟩ := XR.law hR
  replace hF := hF.to (rdb_e (z := t8) et8)
  refine x_getR C (N := 129) (i := 60) (by decide) rfl vc_X1 wx_X1 0 (by decide) wf_X1_12 rfl dX1_goes_45 (a := t8) et8 ?_
  refine x_iload_n C.1 dX1_goes_48 3 rfl ?_
  refine x_bipush C.1 (n := 9) dX1_goes_49 ?_
  refine x_callVi C (As := [.ref (ad t8), vI x3, vI 9]) (rest := []) 69 (xw_at (N := 129) (i := 69) (by decide) rfl) vc_X0 (s_ask l D cy ad G V7 J Rr hI7 hJ hR t8 ht8 x3 ⟨by omega, by omega⟩ 9 ⟨by decide, by decide⟩) (l1 := []) (l2 := []) (List.append_nil _).symm (w2 := fun u : Nat → Nat → Int => XW cy ad u J Rr) (fun _ => List.append_nil _) rfl wm_yX0_ask wn_X0 wl_X1_97 wi_yX0_ask we_yX0_ask hd_yX0_ask rfl ⟨Nat.le_of_ble_eq_true rfl, Nat.le_of_ble_eq_true rfl⟩ (Nat.le_of_ble_eq_true rfl) ⟨Nat.le_of_ble_eq_true rfl, Nat.le_of_ble_eq_true rfl⟩ dX1_goes_51 (fun z9 V9 bz9 h9 => ?_)
  obtain ⟨hI9, bq9, hBc9, hFc9⟩ := h9
  replace hF := calVX_i hF hFc9 hBc9
  replace hF := hF.fc bq9
  have hB9 := hB7.tr hBc9 (fun i k h => (h))
  exact x_iret (S := (Nat → Nat → Int)) (post := (fun a (u : Nat → Nat → Int) => XI G u ∧ (0 ≤ a ∧ a ≤ 999) ∧ FB (fun i k : Nat => (69 ≤ i ∧ i ≤ 71)) V u ∧ (f_s_goes k1 x2 x3 V J Rr) (a, u))) (w1 := (fun u : Nat → Nat → Int => XW cy ad u J Rr)) (a := z9) C hr rfl dX1_goes_54 (by omega) V9 rfl ⟨hI9, ⟨by omega, by omega⟩, hB9, hF _ rfl⟩
theorem hd_yX0_ofNothing : yX0_ofNothing.cls ≠ "java/lang/invoke/MethodHandle" ∧ yX0_ofNothing.cls ≠ "java/lang/invoke/VarHandle" ∧ (parseMethodDescriptor yX0_ofNothing.desc).map (fun d => d.parameters.length) = some 0 := by decide +kernel
theorem dX1_setPrices_0 : decode cX1_setPrices 0 = .ok (.aload_n 0, 1) := by decide +kernel
theorem dX1_setPrices_1 : decode cX1_setPrices 1 = .ok (.getfield 32, 3) := by decide +kernel
theorem dX1_setPrices_4 : decode cX1_setPrices 4 = .ok (.invokevirtual 104, 3) := by decide +kernel
theorem dX1_setPrices_7 : decode cX1_setPrices 7 = .ok (.aload_n 0, 1) := by decide +kernel
theorem dX1_setPrices_8 : decode cX1_setPrices 8 = .ok (.getfield 32, 3) := by decide +kernel
theorem dX1_setPrices_11 : decode cX1_setPrices 11 = .ok (.aload_n 1, 1) := by decide +kernel
theorem dX1_setPrices_12 : decode cX1_setPrices 12 = .ok (.getfield 63, 3) := by decide +kernel
theorem dX1_setPrices_15 : decode cX1_setPrices 15 = .ok (.aload_n 1, 1) := by decide +kernel
theorem dX1_setPrices_16 : decode cX1_setPrices 16 = .ok (.getfield 67, 3) := by decide +kernel
theorem dX1_setPrices_19 : decode cX1_setPrices 19 = .ok (.invokevirtual 70, 3) := by decide +kernel
theorem dX1_setPrices_22 : decode cX1_setPrices 22 = .ok (.iconst 0, 1) := by decide +kernel
theorem dX1_setPrices_23 : decode cX1_setPrices 23 = .ok (.istore_n 3, 1) := by decide +kernel
theorem dX1_setPrices_24 : decode cX1_setPrices 24 = .ok (.iload_n 3, 1) := by decide +kernel
theorem dX1_setPrices_25 : decode cX1_setPrices 25 = .ok (.iload_n 2, 1) := by decide +kernel
theorem dX1_setPrices_26 : decode cX1_setPrices 26 = .ok (.if_icmp .ge 71, 3) := by decide +kernel
theorem dX1_setPrices_29 : decode cX1_setPrices 29 = .ok (.iload_n 3, 1) := by decide +kernel
theorem dX1_setPrices_30 : decode cX1_setPrices 30 = .ok (.aload_n 0, 1) := by decide +kernel
theorem dX1_setPrices_31 : decode cX1_setPrices 31 = .ok (.getfield 22, 3) := by decide +kernel
theorem dX1_setPrices_34 : decode cX1_setPrices 34 = .ok (.arraylength, 1) := by decide +kernel
theorem dX1_setPrices_35 : decode cX1_setPrices 35 = .ok (.if_icmp .ge 62, 3) := by decide +kernel
theorem dX1_setPrices_38 : decode cX1_setPrices 38 = .ok (.aload_n 0, 1) := by decide +kernel
theorem dX1_setPrices_39 : decode cX1_setPrices 39 = .ok (.getfield 32, 3) := by decide +kernel
theorem dX1_setPrices_42 : decode cX1_setPrices 42 = .ok (.bipush 112, 2) := by decide +kernel
theorem dX1_setPrices_44 : decode cX1_setPrices 44 = .ok (.iload_n 3, 1) := by decide +kernel
theorem dX1_setPrices_45 : decode cX1_setPrices 45 = .ok (.invokevirtual 107, 3) := by decide +kernel
theorem dX1_setPrices_48 : decode cX1_setPrices 48 = .ok (.aload_n 0, 1) := by decide +kernel
theorem dX1_setPrices_49 : decode cX1_setPrices 49 = .ok (.getfield 22, 3) := by decide +kernel
theorem dX1_setPrices_52 : decode cX1_setPrices 52 = .ok (.iload_n 3, 1) := by decide +kernel
theorem dX1_setPrices_53 : decode cX1_setPrices 53 = .ok (.aload_n 0, 1) := by decide +kernel
theorem dX1_setPrices_54 : decode cX1_setPrices 54 = .ok (.getfield 32, 3) := by decide +kernel
theorem dX1_setPrices_57 : decode cX1_setPrices 57 = .ok (.aload_n 0, 1) := by decide +kernel
theorem dX1_setPrices_58 : decode cX1_setPrices 58 = .ok (.getfield 12, 3) := by decide +kernel
theorem dX1_setPrices_61 : decode cX1_setPrices 61 = .ok (.bipush 99, 2) := by decide +kernel
theorem dX1_setPrices_63 : decode cX1_setPrices 63 = .ok (.bipush 99, 2) := by decide +kernel
theorem dX1_setPrices_65 : decode cX1_setPrices 65 = .ok (.invokevirtual 97, 3) := by decide +kernel
theorem dX1_setPrices_68 : decode cX1_setPrices 68 = .ok (.iastore, 1) := by decide +kernel
theorem dX1_setPrices_69 : decode cX1_setPrices 69 = .ok (.aload_n 0, 1) := by decide +kernel
theorem dX1_setPrices_70 : decode cX1_setPrices 70 = .ok (.getfield 26, 3) := by decide +kernel
theorem dX1_setPrices_73 : decode cX1_setPrices 73 = .ok (.iload_n 3, 1) := by decide +kernel
theorem dX1_setPrices_74 : decode cX1_setPrices 74 = .ok (.aload_n 0, 1) := by decide +kernel
theorem dX1_setPrices_75 : decode cX1_setPrices 75 = .ok (.getfield 32, 3) := by decide +kernel
theorem dX1_setPrices_78 : decode cX1_setPrices 78 = .ok (.aload_n 0, 1) := by decide +kernel
theorem dX1_setPrices_79 : decode cX1_setPrices 79 = .ok (.getfield 12, 3) := by decide +kernel
theorem dX1_setPrices_82 : decode cX1_setPrices 82 = .ok (.bipush 98, 2) := by decide +kernel
theorem dX1_setPrices_84 : decode cX1_setPrices 84 = .ok (.sipush 999, 3) := by decide +kernel
theorem dX1_setPrices_87 : decode cX1_setPrices 87 = .ok (.invokevirtual 97, 3) := by decide +kernel
theorem dX1_setPrices_90 : decode cX1_setPrices 90 = .ok (.iastore, 1) := by decide +kernel
theorem dX1_setPrices_91 : decode cX1_setPrices 91 = .ok (.iinc 3 1, 3) := by decide +kernel
theorem dX1_setPrices_94 : decode cX1_setPrices 94 = .ok (.goto (-70), 3) := by decide +kernel
theorem dX1_setPrices_97 : decode cX1_setPrices 97 = .ok (.return_, 1) := by decide +kernel
set_option maxRecDepth 100000 in
def f_s_setPrices (k1 : Nat) (x2 : Int) (V : Nat → Nat → Int) (J : Nat → Nat → Int) (Rr : Nat → Nat → Nat) : (Nat → Nat → Int) → Prop :=
  calUX (fun i k : Nat => (70 ≤ i ∧ i ≤ 70)) V (f_s_ofNothing V J Rr) fun V1 => rdb (V1 k1 3) fun z2 => rdb (V1 k1 2) fun z3 => calUX (fun i k : Nat => (69 ≤ i ∧ i ≤ 71)) V1 (f_s_onDay z2 z3 V1 J Rr) fun V4 => lop2 (8) (fun rc55 (z54 : Int) (V55 : Nat → Nat → Int) => (if x2 ≤ z54 then rtn V55 else (if 6 ≤ z54 then rtn V55 else calUX (fun i k : Nat => (69 ≤ i ∧ i ≤ 71)) V55 (f_s_putA 112 z54 V55 J Rr) fun V66 => rdb (Rr 60 0) fun t67 => calVX (fun i k : Nat => (69 ≤ i ∧ i ≤ 71)) V66 (f_s_ask t67 99 99 V66 J Rr) fun z68 V68 => fct (0 ≤ z68 ∧ z68 ≤ 999) <| rdb (up2 V68 67 z54.toNat z68) fun V69 => calVX (fun i k : Nat => (69 ≤ i ∧ i ≤ 71)) V69 (f_s_ask t67 98 999 V69 J Rr) fun z70 V70 => fct (0 ≤ z70 ∧ z70 ≤ 999) <| rdb (up2 V70 68 z54.toNat z70) fun V71 => rc55 (z54 + 1) V71))) 0 V4
set_option maxHeartbeats 8000000 in
set_option maxRecDepth 100000 in
theorem s_setPrices (l : Launch) (D : va_G) (cy : Nat → ClassId) (ad : Nat → Nat) (G : Nat → Nat → Int) (V J : Nat → Nat → Int) (Rr : Nat → Nat → Nat) (hI : XI G V) (hJ : VJ J) (hR : XR Rr) (k1 : Nat) (hk1 : isLa k1) (x2 : Int) (bx2 : 0 ≤ x2 ∧ x2 ≤ 8) : xMv l D (xTY cy) yX1_setPrices cX1_setPrices 4 none 3 76 0 0 [.ref (ad 60), .ref (ad k1), vI x2] (XW cy ad V J Rr) (fun u : Nat → Nat → Int => XW cy ad u J Rr) (fun u : Nat → Nat → Int => XI G u ∧ FB (fun i k : Nat => (70 ≤ i ∧ i ≤ 70) ∨ (69 ≤ i ∧ i ≤ 71) ∨ (67 ≤ i ∧ i ≤ 68)) V u ∧ (f_s_setPrices k1 x2 V J Rr) u) := by
  refine xMv.mk (lv0 := [(0, .ref (ad 60)), (1, .ref (ad k1)), (2, vI x2)]) (by decide) rfl (Nat.le_of_ble_eq_true rfl) (fun p e s m below meth c A C hr hnm hAe => ?_)
  have C : xC2 p s m _ meth c D A s.heap 4 cX1_setPrices RX1 (xTY cy) := C
  have hB : FB (fun i k : Nat => (70 ≤ i ∧ i ≤ 70) ∨ (69 ≤ i ∧ i ≤ 71) ∨ (67 ≤ i ∧ i ≤ 68)) V V := FB.rf _ _
  have hF := Imp.of_eq (f_s_setPrices.eq_def k1 x2 V J Rr)
  refine x_aload_n C.1 dX1_setPrices_0 0 rfl ?_
  refine x_getA C (N := 129) (i := 60) (by decide) rfl vc_X1 wx_X1 4 (by decide) wf_X1_32 (a := 69) rfl dX1_setPrices_1 ?_
  refine x_callVv C (As := []) (rest := []) 69 (xw_at (N := 129) (i := 69) (by decide) rfl) vc_X0 (s_ofNothing l D cy ad G V J Rr hI hJ hR ) (l1 := []) (l2 := []) (List.append_nil _).symm (w2 := fun u : Nat → Nat → Int => XW cy ad u J Rr) (fun _ => List.append_nil _) rfl wm_yX0_ofNothing wn_X0 wl_X1_104 wi_yX0_ofNothing we_yX0_ofNothing hd_yX0_ofNothing rfl ⟨Nat.le_of_ble_eq_true rfl, Nat.le_of_ble_eq_true rfl⟩ (Nat.le_of_ble_eq_true rfl) ⟨Nat.le_of_ble_eq_true rfl, Nat.le_of_ble_eq_true rfl⟩ dX1_setPrices_4 (fun V1 h1 => ?_)
  obtain ⟨hI1, hBc1, hFc1⟩ := h1
  replace hF := calUX_i hF hFc1 hBc1
  have hB1 := hB.tr hBc1 (fun i k h => (Or.inl h))
  refine x_aload_n C.1 dX1_setPrices_7 0 rfl ?_
  refine x_getA C (N := 129) (i := 60) (by decide) rfl vc_X1 wx_X1 4 (by decide) wf_X1_32 (a := 69) rfl dX1_setPrices_8 ?_
  refine x_aload_n C.1 dX1_setPrices_11 1 rfl ?_
  obtain ⟨z2, ez2, bz2⟩ := hI1.rd k1 3 (x := -2147483648) (y := 2147483647) (rg_L hk1 _)
  replace hF := hF.to (rdb_e (z := z2) ez2)
  refine x_getI C (N := 129) (i := k1) (by omega) (xd_L hk1) vc_X3 wx_X3 3 (by decide) wf_X1_63 rfl dX1_setPrices_12 (a := z2) ez2 ?_
  refine x_aload_n C.1 dX1_setPrices_15 1 rfl ?_
  obtain ⟨z3, ez3, bz3⟩ := hI1.rd k1 2 (x := -2147483648) (y := 2147483647) (rg_L hk1 _)
  replace hF := hF.to (rdb_e (z := z3) ez3)
  refine x_getI C (N := 129) (i := k1) (by omega) (xd_L hk1) vc_X3 wx_X3 2 (by decide) wf_X1_67 rfl dX1_setPrices_16 (a := z3) ez3 ?_
  refine x_callVv C (As := [vI z2, vI z3]) (rest := []) 69 (xw_at (N := 129) (i := 69) (by decide) rfl) vc_X0 (s_onDay l D cy ad G V1 J Rr hI1 hJ hR z2 ⟨by omega, by omega⟩ z3 ⟨by omega, by omega⟩) (l1 := []) (l2 := []) (List.append_nil _).symm (w2 := fun u : Nat → Nat → Int => XW cy ad u J Rr) (fun _ => List.append_nil _) rfl wm_yX0_onDay wn_X0 wl_X1_70 wi_yX0_onDay we_yX0_onDay hd_yX0_onDay rfl ⟨Nat.le_of_ble_eq_true rfl, Nat.le_of_ble_eq_true rfl⟩ (Nat.le_of_ble_eq_true rfl) ⟨Nat.le_of_ble_eq_true rfl, Nat.le_of_ble_eq_true rfl⟩ dX1_setPrices_19 (fun V4 h4 => ?_)
  obtain ⟨hI4, hBc4, hFc4⟩ := h4
  replace hF := calUX_i hF hFc4 hBc4
  have hB4 := hB1.tr hBc4 (fun i k h => (Or.inr (Or.inl h)))
  refine x_iconst C.1 (n := 0) dX1_setPrices_22 ?_
  refine x_istore_n C.1 (lv' := [(3, vI 0), (0, .ref (ad 60)), (1, .ref (ad k1)), (2, vI x2)]) dX1_setPrices_23 (by decide) rfl ?_
  obtain ⟨bd55, hbd55, hF⟩ := lop2_ex hF
  refine x_loop (I := fun x : Int × (Nat → Nat → Int) => match x with | (z54, V55) => (0 ≤ z54 ∧ z54 ≤ 6) ∧ XI G V55 ∧ FB (fun i k : Nat => (70 ≤ i ∧ i ≤ 70) ∨ (69 ≤ i ∧ i ≤ 71) ∨ (67 ≤ i ∧ i ≤ 68)) V V55 ∧ (∃ nf : Nat, (7 - z54).toNat < nf ∧ Imp (lop2 nf bd55 z54 V55) (f_s_setPrices k1 x2 V J Rr))) (μ := fun x : Int × (Nat → Nat → Int) => match x with | (z54, V55) => (7 - z54).toNat) (wsf := fun x : Int × (Nat → Nat → Int) => match x with | (z54, V55) => XW cy ad V55 J Rr) (lvf := fun x : Int × (Nat → Nat → Int) => match x with | (z54, V55) => [(3, vI z54), (0, .ref (ad 60)), (1, .ref (ad k1)), (2, vI x2)]) (fun x hI55x ih55 => ?_) (0, V4) ⟨⟨by decide, by decide⟩, hI4, hB4, ⟨_, (by omega), hF⟩⟩ rfl rfl
  obtain ⟨z54, V55⟩ := x
  obtain ⟨bz54, hI55, hB55, nf55, hn55, hF⟩ := hI55x
  try dsimp only
  obtain ⟨nf55, rfl⟩ : ∃ mm, nf55 = mm + 1 := ⟨nf55 - 1, (Nat.succ_pred_eq_of_pos (Nat.lt_of_le_of_lt (Nat.zero_le _) hn55)).symm⟩
  replace hF := hF.to (lop2_s hbd55)
  refine x_iload_n C.1 dX1_setPrices_24 0 rfl ?_
  refine x_iload_n C.1 dX1_setPrices_25 3 rfl ?_
  refine x_icmp_ge C.1 (tgt := 97) dX1_setPrices_26 (by decide) (by omega) (by omega) (fun hc64 => ?_) (fun hc64 => ?_)
  · replace hF := hF.to (if_pos hc64)
    exact x_vret (S := (Nat → Nat → Int)) (post := (fun u : Nat → Nat → Int => XI G u ∧ FB (fun i k : Nat => (70 ≤ i ∧ i ≤ 70) ∨ (69 ≤ i ∧ i ≤ 71) ∨ (67 ≤ i ∧ i ≤ 68)) V u ∧ (f_s_setPrices k1 x2 V J Rr) u)) (w1 := (fun u : Nat → Nat → Int => XW cy ad u J Rr)) C hr rfl dX1_setPrices_97 V55 rfl ⟨hI55, hB55, hF _ rfl⟩
  · replace hF := hF.to (if_neg hc64)
    refine x_iload_n C.1 dX1_setPrices_29 0 rfl ?_
    refine x_aload_n C.1 dX1_setPrices_30 1 rfl ?_
    refine x_getA C (N := 129) (i := 60) (by decide) rfl vc_X1 wx_X1 2 (by decide) wf_X1_22 (a := 67) rfl dX1_setPrices_31 ?_
    refine x_alenI C (N := 129) (i := 67) (t := 0) rfl (by decide) rfl dX1_setPrices_34 ?_
    refine x_icmp_ge C.1 (tgt := 97) dX1_setPrices_35 (by decide) (by omega) (by decide) (fun hc65 => ?_) (fun hc65 => ?_)
    · replace hF := hF.to (if_pos hc65)
      exact x_vret (S := (Nat → Nat → Int)) (post := (fun u : Nat → Nat → Int => XI G u ∧ FB (fun i k : Nat => (70 ≤ i ∧ i ≤ 70) ∨ (69 ≤ i ∧ i ≤ 71) ∨ (67 ≤ i ∧ i ≤ 68)) V u ∧ (f_s_setPrices k1 x2 V J Rr) u)) (w1 := (fun u : Nat → Nat → Int => XW cy ad u J Rr)) C hr rfl dX1_setPrices_97 V55 rfl ⟨hI55, hB55, hF _ rfl⟩
    · replace hF := hF.to (if_neg hc65)
      refine x_aload_n C.1 dX1_setPrices_38 1 rfl ?_
      refine x_getA C (N := 129) (i := 60) (by decide) rfl vc_X1 wx_X1 4 (by decide) wf_X1_32 (a := 69) rfl dX1_setPrices_39 ?_
      refine x_bipush C.1 (n := 112) dX1_setPrices_42 ?_
      refine x_iload_n C.1 dX1_setPrices_44 0 rfl ?_
      refine x_callVv C (As := [vI 112, vI z54]) (rest := []) 69 (xw_at (N := 129) (i := 69) (by decide) rfl) vc_X0 (s_putA l D cy ad G V55 J Rr hI55 hJ hR 112 ⟨by decide, by decide⟩ z54 ⟨by omega, by omega⟩) (l1 := []) (l2 := []) (List.append_nil _).symm (w2 := fun u : Nat → Nat → Int => XW cy ad u J Rr) (fun _ => List.append_nil _) rfl wm_yX0_put wn_X0 wl_X1_107 wi_yX0_put we_yX0_put hd_yX0_put rfl ⟨Nat.le_of_ble_eq_true rfl, Nat.le_of_ble_eq_true rfl⟩ (Nat.le_of_ble_eq_true rfl) ⟨Nat.le_of_ble_eq_true rfl, Nat.le_of_ble_eq_true rfl⟩ dX1_setPrices_45 (fun V66 h66 => ?_)
      obtain ⟨hI66, hBc66, hFc66⟩ := h66
      replace hF := calUX_i hF hFc66 hBc66
      have hB66 := hB55.tr hBc66 (fun i k h => (Or.inr (Or.inl h)))
      refine x_aload_n C.1 dX1_setPrices_48 1 rfl ?_
      refine x_getA C (N := 129) (i := 60) (by decide) rfl vc_X1 wx_X1 2 (by decide) wf_X1_22 (a := 67) rfl dX1_setPrices_49 ?_
      refine x_iload_n C.1 dX1_setPrices_52 0 rfl ?_
      refine x_aload_n C.1 dX1_setPrices_53 1 rfl ?_
      refine x_getA C (N := 129) (i := 60) (by decide) rfl vc_X1 wx_X1 4 (by decide) wf_X1_32 (a := 69) rfl dX1_setPrices_54 ?_
      refine x_aload_n C.1 dX1_setPrices_57 1 rfl ?_
      obtain ⟨t67, et67, ht67⟩ := XR.law hR
      replace hF := hF.to (rdb_e (z := t67) et67)
      refine x_getR C (N := 129) (i := 60) (by decide) rfl vc_X1 wx_X1 0 (by decide) wf_X1_12 rfl dX1_setPrices_58 (a := t67) et67 ?_
      refine x_bipush C.1 (n := 99) dX1_setPrices_61 ?_
      refine x_bipush C.1 (n := 99) dX1_setPrices_63 ?_
      refine x_callVi C (As := [.ref (ad t67), vI 99, vI 99]) (rest := [vI z54, .ref (ad 67)]) 69 (xw_at (N := 129) (i := 69) (by decide) rfl) vc_X0 (s_ask l D cy ad G V66 J Rr hI66 hJ hR t67 ht67 99 ⟨by decide, by decide⟩ 99 ⟨by decide, by decide⟩) (l1 := []) (l2 := []) (List.append_nil _).symm (w2 := fun u : Nat → Nat → Int => XW cy ad u J Rr) (fun _ => List.append_nil _) rfl wm_yX0_ask wn_X0 wl_X1_97 wi_yX0_ask we_yX0_ask hd_yX0_ask rfl ⟨Nat.le_of_ble_eq_true rfl, Nat.le_of_ble_eq_true rfl⟩ (Nat.le_of_ble_eq_true rfl) ⟨Nat.le_of_ble_eq_true rfl, Nat.le_of_ble_eq_true rfl⟩ dX1_setPrices_65 (fun z68 V68 bz68 h68 => ?_)
      obtain ⟨hI68, bq68, hBc68, hFc68⟩ := h68
      replace hF := calVX_i hF hFc68 hBc68
      replace hF := hF.fc bq68
      have hB68 := hB66.tr hBc68 (fun i k h => (Or.inr (Or.inl h)))
      refine x_iast C (N := 129) (i := 67) (q := z54) (a := z68) (by decide) rfl (by omega) (by decide) dX1_setPrices_68 ?_
      refine x_gV ?_
      intro V69 hV69
      have hI69 : XI G V69 := hI68.up hV69 rfl (by omega) rfl
      have hB69 := hB68.up hV69 (Or.inr (Or.inr (⟨by decide, by decide⟩)))
      replace hF := hF.to (rdb_e (z := V69) hV69.symm)
      refine x_aload_n C.1 dX1_setPrices_69 1 rfl ?_
      refine x_getA C (N := 129) (i := 60) (by decide) rfl vc_X1 wx_X1 3 (by decide) wf_X1_26 (a := 68) rfl dX1_setPrices_70 ?_
      refine x_iload_n C.1 dX1_setPrices_73 0 rfl ?_
      refine x_aload_n C.1 dX1_setPrices_74 1 rfl ?_
      refine x_getA C (N := 129) (i := 60) (by decide) rfl vc_X1 wx_X1 4 (by decide) wf_X1_32 (a := 69) rfl dX1_setPrices_75 ?_
      refine x_aload_n C.1 dX1_setPrices_78 1 rfl ?_
      refine x_getR C (N := 129) (i := 60) (by decide) rfl vc_X1 wx_X1 0 (by decide) wf_X1_12 rfl dX1_setPrices_79 (a := t67) et67 ?_
      refine x_bipush C.1 (n := 98) dX1_setPrices_82 ?_
      refine x_sipush C.1 (n := 999) dX1_setPrices_84 ?_
      refine x_callVi C (As := [.ref (ad t67), vI 98, vI 999]) (rest := [vI z54, .ref (ad 68)]) 69 (xw_at (N := 129) (i := 69) (by decide) rfl) vc_X0 (s_ask l D cy ad G V69 J Rr hI69 hJ hR t67 ht67 98 ⟨by decide, by decide⟩ 999 ⟨by decide, by decide⟩) (l1 := []) (l2 := []) (List.append_nil _).symm (w2 := fun u : Nat → Nat → Int => XW cy ad u J Rr) (fun _ => List.append_nil _) rfl wm_yX0_ask wn_X0 wl_X1_97 wi_yX0_ask we_yX0_ask hd_yX0_ask rfl ⟨Nat.le_of_ble_eq_true rfl, Nat.le_of_ble_eq_true rfl⟩ (Nat.le_of_ble_eq_true rfl) ⟨Nat.le_of_ble_eq_true rfl, Nat.le_of_ble_eq_true rfl⟩ dX1_setPrices_87 (fun z70 V70 bz70 h70 => ?_)
      obtain ⟨hI70, bq70, hBc70, hFc70⟩ := h70
      replace hF := calVX_i hF hFc70 hBc70
      replace hF := hF.fc bq70
      have hB70 := hB69.tr hBc70 (fun i k h => (Or.inr (Or.inl h)))
      refine x_iast C (N := 129) (i := 68) (q := z54) (a := z70) (by decide) rfl (by omega) (by decide) dX1_setPrices_90 ?_
      refine x_gV ?_
      intro V71 hV71
      have hI71 : XI G V71 := hI70.up hV71 rfl (by omega) rfl
      have hB71 := hB70.up hV71 (Or.inr (Or.inr (⟨by decide, by decide⟩)))
      replace hF := hF.to (rdb_e (z := V71) hV71.symm)
      refine x_iinc C.1 (v := z54 + 1) (lv' := [(3, vI (z54 + 1)), (0, .ref (ad 60)), (1, .ref (ad k1)), (2, vI x2)]) (by omega) dX1_setPrices_91 0 rfl (by decide) rfl ?_
      refine x_goto C.1 (tgt := 24) dX1_setPrices_94 (by decide) ?_
      have hmu55 : (7 - (z54 + 1)).toNat < (7 - z54).toNat := (by omega)
      exact ih55 (z54 + 1, V71) ⟨⟨by omega, by omega⟩, hI71, hB71, ⟨nf55, Nat.lt_of_lt_of_le hmu55 (Nat.le_of_lt_succ hn55), hF⟩⟩ hmu55
theorem dX4_copy_0 : decode cX4_copy 0 = .ok (.aload_n 0, 1) := by decide +kernel
theorem dX4_copy_1 : decode cX4_copy 1 = .ok (.aload_n 1, 1) := by decide +kernel
theorem dX4_copy_2 : decode cX4_copy 2 = .ok (.getfield 7, 3) := by decide +kernel
theorem dX4_copy_5 : decode cX4_copy 5 = .ok (.putfield 7, 3) := by decide +kernel
theorem dX4_copy_8 : decode cX4_copy 8 = .ok (.aload_n 0, 1) := by decide +kernel
theorem dX4_copy_9 : decode cX4_copy 9 = .ok (.aload_n 1, 1) := by decide +kernel
theorem dX4_copy_10 : decode cX4_copy 10 = .ok (.getfield 13, 3) := by decide +kernel
theorem dX4_copy_13 : decode cX4_copy 13 = .ok (.putfield 13, 3) := by decide +kernel
theorem dX4_copy_16 : decode cX4_copy 16 = .ok (.aload_n 0, 1) := by decide +kernel
theorem dX4_copy_17 : decode cX4_copy 17 = .ok (.aload_n 1, 1) := by decide +kernel
theorem dX4_copy_18 : decode cX4_copy 18 = .ok (.getfield 17, 3) := by decide +kernel
theorem dX4_copy_21 : decode cX4_copy 21 = .ok (.putfield 17, 3) := by decide +kernel
theorem dX4_copy_24 : decode cX4_copy 24 = .ok (.aload_n 0, 1) := by decide +kernel
theorem dX4_copy_25 : decode cX4_copy 25 = .ok (.aload_n 1, 1) := by decide +kernel
theorem dX4_copy_26 : decode cX4_copy 26 = .ok (.getfield 20, 3) := by decide +kernel
theorem dX4_copy_29 : decode cX4_copy 29 = .ok (.putfield 20, 3) := by decide +kernel
theorem dX4_copy_32 : decode cX4_copy 32 = .ok (.return_, 1) := by decide +kernel
set_option maxRecDepth 100000 in
def f_s_copyE (k0 : Nat) (k1 : Nat) (V : Nat → Nat → Int) (J : Nat → Nat → Int) (Rr : Nat → Nat → Nat) : (Nat → Nat → Int) → Prop :=
  rdb (V k1 0) fun z1 => fct (0 ≤ z1 ∧ z1 ≤ 1) <| rdb (up2 V k0 0 z1) fun V2 => rdb (V2 k1 1) fun z3 => rdb (up2 V2 k0 1 z3) fun V4 => rdb (V4 k1 2) fun z5 => fct (0 ≤ z5 ∧ z5 ≤ 3) <| rdb (up2 V4 k0 2 z5) fun V6 => rdb (V6 k1 3) fun z7 => rdb (up2 V6 k0 3 z7) fun V8 => rtn V8
set_option maxHeartbeats 8000000 in
set_option maxRecDepth 100000 in
theorem s_copyE (l : Launch) (D : va_G) (cy : Nat → ClassId) (ad : Nat → Nat) (G : Nat → Nat → Int) (V J : Nat → Nat → Int) (Rr : Nat → Nat → Nat) (hI : XI G V) (hJ : VJ J) (hR : XR Rr) (k0 : Nat) (hk0 : isPe k0) (k1 : Nat) (hk1 : isPe k1) : xMv l D (xTY cy) yX4_copy cX4_copy 2 none 0 0 0 0 [.ref (ad k0), .ref (ad k1)] (XW cy ad V J Rr) (fun u : Nat → Nat → Int => XW cy ad u J Rr) (fun u : Nat → Nat → Int => XI G u ∧ FB (fun i k : Nat => (k0 ≤ i ∧ i ≤ k0)) V u ∧ (f_s_copyE k0 k1 V J Rr) u) := by
  refine xMv.mk (lv0 := [(0, .ref (ad k0)), (1, .ref (ad k1))]) (by decide) rfl (Nat.le_of_ble_eq_true rfl) (fun p e s m below meth c A C hr hnm hAe => ?_)
  have C : xC2 p s m _ meth c D A s.heap 2 cX4_copy RX4 (xTY cy) := C
  have hB : FB (fun i k : Nat => (k0 ≤ i ∧ i ≤ k0)) V V := FB.rf _ _
  have hF := Imp.of_eq (f_s_copyE.eq_def k0 k1 V J Rr)
  refine x_aload_n C.1 dX4_copy_0 0 rfl ?_
  refine x_aload_n C.1 dX4_copy_1 1 rfl ?_
  obtain ⟨z1, ez1, bz1⟩ := hI.rd k1 0 (x := 0) (y := 1) (rg_E hk1 0)
  replace hF := hF.to (rdb_e (z := z1) ez1)
  replace hF := hF.fc bz1
  refine x_getI C (N := 129) (i := k1) hk1.1 hk1.2 vc_X4 wx_X4 0 (by decide) wf_X4_7 rfl dX4_copy_2 (a := z1) ez1 ?_
  refine x_putI C (N := 129) (i := k0) hk0.1 hk0.2 vc_X4 wx_X4 0 (by decide) wf_X4_7 tyX4 tyX4_ok nmX4 rfl (tyX4_ok 0 (by decide)) rfl dX4_copy_5 (z_nar (by omega)) (z_fit (by omega)) ?_
  refine x_gV ?_
  intro V2 hV2
  have hI2 : XI G V2 := hI.up hV2 (rg_E hk0 0) (by omega) (pr_E hk0 _)
  have hB2 := hB.up hV2 (⟨Nat.le_refl _, by omega⟩)
  replace hF := hF.to (rdb_e (z := V2) hV2.symm)
  refine x_aload_n C.1 dX4_copy_8 0 rfl ?_
  refine x_aload_n C.1 dX4_copy_9 1 rfl ?_
  obtain ⟨z3, ez3, bz3⟩ := hI2.rd k1 1 (x := -2147483648) (y := 2147483647) (rg_E hk1 1)
  replace hF := hF.to (rdb_e (z := z3) ez3)
  refine x_getI C (N := 129) (i := k1) hk1.1 hk1.2 vc_X4 wx_X4 1 (by decide) wf_X4_13 rfl dX4_copy_10 (a := z3) ez3 ?_
  refine x_putI C (N := 129) (i := k0) hk0.1 hk0.2 vc_X4 wx_X4 1 (by decide) wf_X4_13 tyX4 tyX4_ok nmX4 rfl (tyX4_ok 1 (by decide)) rfl dX4_copy_13 rfl rfl ?_
  refine x_gV ?_
  intro V4 hV4
  have hI4 : XI G V4 := hI2.up hV4 (rg_E hk0 1) (by omega) (pr_E hk0 _)
  have hB4 := hB2.up hV4 (⟨Nat.le_refl _, by omega⟩)
  replace hF := hF.to (rdb_e (z := V4) hV4.symm)
  refine x_aload_n C.1 dX4_copy_16 0 rfl ?_
  refine x_aload_n C.1 dX4_copy_17 1 rfl ?_
  obtain ⟨z5, ez5, bz5⟩ := hI4.rd k1 2 (x := 0) (y := 3) (rg_E hk1 2)
  replace hF := hF.to (rdb_e (z := z5) ez5)
  replace hF := hF.fc bz5
  refine x_getI C (N := 129) (i := k1) hk1.1 hk1.2 vc_X4 wx_X4 2 (by decide) wf_X4_17 rfl dX4_copy_18 (a := z5) ez5 ?_
  refine x_putI C (N := 129) (i := k0) hk0.1 hk0.2 vc_X4 wx_X4 2 (by decide) wf_X4_17 tyX4 tyX4_ok nmX4 rfl (tyX4_ok 2 (by decide)) rfl dX4_copy_21 rfl rfl ?_
  refine x_gV ?_
  intro V6 hV6
  have hI6 : XI G V6 := hI4.up hV6 (rg_E hk0 2) (by omega) (pr_E hk0 _)
  have hB6 := hB4.up hV6 (⟨Nat.le_refl _, by omega⟩)
  replace hF := hF.to (rdb_e (z := V6) hV6.symm)
  refine x_aload_n C.1 dX4_copy_24 0 rfl ?_
  refine x_aload_n C.1 dX4_copy_25 1 rfl ?_
  obtain ⟨z7, ez7, bz7⟩ := hI6.rd k1 3 (x := -2147483648) (y := 2147483647) (rg_E hk1 3)
  replace hF := hF.to (rdb_e (z := z7) ez7)
  refine x_getI C (N := 129) (i := k1) hk1.1 hk1.2 vc_X4 wx_X4 3 (by decide) wf_X4_20 rfl dX4_copy_26 (a := z7) ez7 ?_
  refine x_putI C (N := 129) (i := k0) hk0.1 hk0.2 vc_X4 wx_X4 3 (by decide) wf_X4_20 tyX4 tyX4_ok nmX4 rfl (tyX4_ok 3 (by decide)) rfl dX4_copy_29 rfl rfl ?_
  refine x_gV ?_
  intro V8 hV8
  have hI8 : XI G V8 := hI6.up hV8 (rg_E hk0 3) (by omega) (pr_E hk0 _)
  have hB8 := hB6.up hV8 (⟨Nat.le_refl _, by omega⟩)
  replace hF := hF.to (rdb_e (z := V8) hV8.symm)
  exact x_vret (S := (Nat → Nat → Int)) (post := (fun u : Nat → Nat → Int => XI G u ∧ FB (fun i k : Nat => (k0 ≤ i ∧ i ≤ k0)) V u ∧ (f_s_copyE k0 k1 V J Rr) u)) (w1 := (fun u : Nat → Nat → Int => XW cy ad u J Rr)) C hr rfl dX4_copy_32 V8 rfl ⟨hI8, hB8, hF _ rfl⟩
theorem dX5_copy_0 : decode cX5_copy 0 = .ok (.aload_n 0, 1) := by decide +kernel
theorem dX5_copy_1 : decode cX5_copy 1 = .ok (.aload_n 1, 1) := by decide +kernel
theorem dX5_copy_2 : decode cX5_copy 2 = .ok (.getfield 19, 3) := by decide +kernel
theorem dX5_copy_5 : decode cX5_copy 5 = .ok (.putfield 19, 3) := by decide +kernel
theorem dX5_copy_8 : decode cX5_copy 8 = .ok (.aload_n 0, 1) := by decide +kernel
theorem dX5_copy_9 : decode cX5_copy 9 = .ok (.aload_n 1, 1) := by decide +kernel
theorem dX5_copy_10 : decode cX5_copy 10 = .ok (.getfield 23, 3) := by decide +kernel
theorem dX5_copy_13 : decode cX5_copy 13 = .ok (.putfield 23, 3) := by decide +kernel
theorem dX5_copy_16 : decode cX5_copy 16 = .ok (.aload_n 0, 1) := by decide +kernel
theorem dX5_copy_17 : decode cX5_copy 17 = .ok (.aload_n 1, 1) := by decide +kernel
theorem dX5_copy_18 : decode cX5_copy 18 = .ok (.getfield 26, 3) := by decide +kernel
theorem dX5_copy_21 : decode cX5_copy 21 = .ok (.putfield 26, 3) := by decide +kernel
theorem dX5_copy_24 : decode cX5_copy 24 = .ok (.aload_n 0, 1) := by decide +kernel
theorem dX5_copy_25 : decode cX5_copy 25 = .ok (.aload_n 1, 1) := by decide +kernel
theorem dX5_copy_26 : decode cX5_copy 26 = .ok (.getfield 29, 3) := by decide +kernel
theorem dX5_copy_29 : decode cX5_copy 29 = .ok (.putfield 29, 3) := by decide +kernel
theorem dX5_copy_32 : decode cX5_copy 32 = .ok (.aload_n 0, 1) := by decide +kernel
theorem dX5_copy_33 : decode cX5_copy 33 = .ok (.aload_n 1, 1) := by decide +kernel
theorem dX5_copy_34 : decode cX5_copy 34 = .ok (.getfield 32, 3) := by decide +kernel
theorem dX5_copy_37 : decode cX5_copy 37 = .ok (.putfield 32, 3) := by decide +kernel
theorem dX5_copy_40 : decode cX5_copy 40 = .ok (.aload_n 0, 1) := by decide +kernel
theorem dX5_copy_41 : decode cX5_copy 41 = .ok (.aload_n 1, 1) := by decide +kernel
theorem dX5_copy_42 : decode cX5_copy 42 = .ok (.getfield 35, 3) := by decide +kernel
theorem dX5_copy_45 : decode cX5_copy 45 = .ok (.putfield 35, 3) := by decide +kernel
theorem dX5_copy_48 : decode cX5_copy 48 = .ok (.aload_n 0, 1) := by decide +kernel
theorem dX5_copy_49 : decode cX5_copy 49 = .ok (.aload_n 1, 1) := by decide +kernel
theorem dX5_copy_50 : decode cX5_copy 50 = .ok (.getfield 38, 3) := by decide +kernel
theorem dX5_copy_53 : decode cX5_copy 53 = .ok (.putfield 38, 3) := by decide +kernel
theorem dX5_copy_56 : decode cX5_copy 56 = .ok (.aload_n 0, 1) := by decide +kernel
theorem dX5_copy_57 : decode cX5_copy 57 = .ok (.aload_n 1, 1) := by decide +kernel
theorem dX5_copy_58 : decode cX5_copy 58 = .ok (.getfield 9, 3) := by decide +kernel
theorem dX5_copy_61 : decode cX5_copy 61 = .ok (.putfield 9, 3) := by decide +kernel
theorem dX5_copy_64 : decode cX5_copy 64 = .ok (.aload_n 1, 1) := by decide +kernel
theorem dX5_copy_65 : decode cX5_copy 65 = .ok (.getfield 15, 3) := by decide +kernel
theorem dX5_copy_68 : decode cX5_copy 68 = .ok (.iconst 0, 1) := by decide +kernel
theorem dX5_copy_69 : decode cX5_copy 69 = .ok (.aload_n 0, 1) := by decide +kernel
theorem dX5_copy_70 : decode cX5_copy 70 = .ok (.getfield 15, 3) := by decide +kernel
theorem dX5_copy_73 : decode cX5_copy 73 = .ok (.iconst 0, 1) := by decide +kernel
theorem dX5_copy_74 : decode cX5_copy 74 = .ok (.bipush 7, 2) := by decide +kernel
theorem dX5_copy_76 : decode cX5_copy 76 = .ok (.invokestatic 47, 3) := by decide +kernel
theorem dX5_copy_79 : decode cX5_copy 79 = .ok (.return_, 1) := by decide +kernel
set_option maxRecDepth 100000 in
def f_s_copyP (k0 : Nat) (k1 : Nat) (V : Nat → Nat → Int) (J : Nat → Nat → Int) (Rr : Nat → Nat → Nat) : (Nat → Nat → Int) → Prop :=
  rdb (V k1 0) fun z1 => fct (0 ≤ z1 ∧ z1 ≤ 1) <| rdb (up2 V k0 0 z1) fun V2 => rdb (V2 k1 1) fun z3 => rdb (up2 V2 k0 1 z3) fun V4 => rdb (V4 k1 2) fun z5 => rdb (up2 V4 k0 2 z5) fun V6 => rdb (V6 k1 3) fun z7 => rdb (up2 V6 k0 3 z7) fun V8 => rdb (V8 k1 4) fun z9 => rdb (up2 V8 k0 4 z9) fun V10 => rdb (V10 k1 5) fun z11 => rdb (up2 V10 k0 5 z11) fun V12 => rdb (V12 k1 6) fun z13 => fct (0 ≤ z13 ∧ z13 ≤ 1) <| rdb (up2 V12 k0 6 z13) fun V14 => rdb (V14 k1 7) fun z15 => rdb (up2 V14 k0 7 z15) fun V16 => rdb (cpV V16 (k1 + 1) 0 (k0 + 1) 0 7) fun V17 => rtn V17
set_option maxHeartbeats 8000000 in
set_option maxRecDepth 100000 in
theorem s_copyP (l : Launch) (D : va_G) (cy : Nat → ClassId) (ad : Nat → Nat) (G : Nat → Nat → Int) (V J : Nat → Nat → Int) (Rr : Nat → Nat → Nat) (hI : XI G V) (hJ : VJ J) (hR : XR Rr) (k0 : Nat) (hk0 : isPl k0) (k1 : Nat) (hk1 : isPl k1) (hpU : ∀ k, prX k0 k = false) : xMv l D (xTY cy) yX5_copy cX5_copy 2 none 1 48 0 0 [.ref (ad k0), .ref (ad k1)] (XW cy ad V J Rr) (fun u : Nat → Nat → Int => XW cy ad u J Rr) (fun u : Nat → Nat → Int => XI G u ∧ FB (fun i k : Nat => (k0 ≤ i ∧ i ≤ k0 + 1)) V u ∧ (f_s_copyP k0 k1 V J Rr) u) := by
  refine xMv.mk (lv0 := [(0, .ref (ad k0)), (1, .ref (ad k1))]) (by decide) rfl (Nat.le_of_ble_eq_true rfl) (fun p e s m below meth c A C hr hnm hAe => ?_)
  have C : xC2 p s m _ meth c D A s.heap 2 cX5_copy RX5 (xTY cy) := C
  have hB : FB (fun i k : Nat => (k0 ≤ i ∧ i ≤ k0 + 1)) V V := FB.rf _ _
  have hF := Imp.of_eq (f_s_copyP.eq_def k0 k1 V J Rr)
  refine x_aload_n C.1 dX5_copy_0 0 rfl ?_
  refine x_aload_n C.1 dX5_copy_1 1 rfl ?_
  obtain ⟨z1, ez1, bz1⟩ := hI.rd k1 0 (x := 0) (y := 1) (rg_P hk1 0)
  replace hF := hF.to (rdb_e (z := z1) ez1)
  replace hF := hF.fc bz1
  refine x_getI C (N := 129) (i := k1) (Nat.lt_of_succ_lt hk1.1) hk1.2.1 vc_X5 wx_X5 0 (by decide) wf_X5_19 rfl dX5_copy_2 (a := z1) ez1 ?_
  refine x_putI C (N := 129) (i := k0) (Nat.lt_of_succ_lt hk0.1) hk0.2.1 vc_X5 wx_X5 0 (by decide) wf_X5_19 tyX5 tyX5_ok nmX5 rfl (tyX5_ok 0 (by decide)) rfl dX5_copy_5 (z_nar (by omega)) (z_fit (by omega)) ?_
  refine x_gV ?_
  intro V2 hV2
  have hI2 : XI G V2 := hI.up hV2 (rg_P hk0 0) (by omega) (hpU _)
  have hB2 := hB.up hV2 (⟨Nat.le_refl _, by omega⟩)
  replace hF := hF.to (rdb_e (z := V2) hV2.symm)
  refine x_aload_n C.1 dX5_copy_8 0 rfl ?_
  refine x_aload_n C.1 dX5_copy_9 1 rfl ?_
  obtain ⟨z3, ez3, bz3⟩ := hI2.rd k1 1 (x := -2147483648) (y := 2147483647) (rg_P hk1 1)
  replace hF := hF.to (rdb_e (z := z3) ez3)
  refine x_getI C (N := 129) (i := k1) (Nat.lt_of_succ_lt hk1.1) hk1.2.1 vc_X5 wx_X5 1 (by decide) wf_X5_23 rfl dX5_copy_10 (a := z3) ez3 ?_
  refine x_putI C (N := 129) (i := k0) (Nat.lt_of_succ_lt hk0.1) hk0.2.1 vc_X5 wx_X5 1 (by decide) wf_X5_23 tyX5 tyX5_ok nmX5 rfl (tyX5_ok 1 (by decide)) rfl dX5_copy_13 rfl rfl ?_
  refine x_gV ?_
  intro V4 hV4
  have hI4 : XI G V4 := hI2.up hV4 (rg_P hk0 1) (by omega) (hpU _)
  have hB4 := hB2.up hV4 (⟨Nat.le_refl _, by omega⟩)
  replace hF := hF.to (rdb_e (z := V4) hV4.symm)
  refine x_aload_n C.1 dX5_copy_16 0 rfl ?_
  refine x_aload_n C.1 dX5_copy_17 1 rfl ?_
  obtain ⟨z5, ez5, bz5⟩ := hI4.rd k1 2 (x := -2147483648) (y := 2147483647) (rg_P hk1 2)
  replace hF := hF.to (rdb_e (z := z5) ez5)
  refine x_getI C (N := 129) (i := k1) (Nat.lt_of_succ_lt hk1.1) hk1.2.1 vc_X5 wx_X5 2 (by decide) wf_X5_26 rfl dX5_copy_18 (a := z5) ez5 ?_
  refine x_putI C (N := 129) (i := k0) (Nat.lt_of_succ_lt hk0.1) hk0.2.1 vc_X5 wx_X5 2 (by decide) wf_X5_26 tyX5 tyX5_ok nmX5 rfl (tyX5_ok 2 (by decide)) rfl dX5_copy_21 rfl rfl ?_
  refine x_gV ?_
  intro V6 hV6
  have hI6 : XI G V6 := hI4.up hV6 (rg_P hk0 2) (by omega) (hpU _)
  have hB6 := hB4.up hV6 (⟨Nat.le_refl _, by omega⟩)
  replace hF := hF.to (rdb_e (z := V6) hV6.symm)
  refine x_aload_n C.1 dX5_copy_24 0 rfl ?_
  refine x_aload_n C.1 dX5_copy_25 1 rfl ?_
  obtain ⟨z7, ez7, bz7⟩ := hI6.rd k1 3 (x := -2147483648) (y := 2147483647) (rg_P hk1 3)
  replace hF := hF.to (rdb_e (z := z7) ez7)
  refine x_getI C (N := 129) (i := k1) (Nat.lt_of_succ_lt hk1.1) hk1.2.1 vc_X5 wx_X5 3 (by decide) wf_X5_29 rfl dX5_copy_26 (a := z7) ez7 ?_
  refine x_putI C (N := 129) (i := k0) (Nat.lt_of_succ_lt hk0.1) hk0.2.1 vc_X5 wx_X5 3 (by decide) wf_X5_29 tyX5 tyX5_ok nmX5 rfl (tyX5_ok 3 (by decide)) rfl dX5_copy_29 rfl rfl ?_
  refine x_gV ?_
  intro V8 hV8
  have hI8 : XI G V8 := hI6.up hV8 (rg_P hk0 3) (by omega) (hpU _)
  have hB8 := hB6.up hV8 (⟨Nat.le_refl _, by omega⟩)
  replace hF := hF.to (rdb_e (z := V8) hV8.symm)
  refine x_aload_n C.1 dX5_copy_32 0 rfl ?_
  refine x_aload_n C.1 dX5_copy_33 1 rfl ?_
  obtain ⟨z9, ez9, bz9⟩ := hI8.rd k1 4 (x := -2147483648) (y := 2147483647) (rg_P hk1 4)
  replace hF := hF.to (rdb_e (z := z9) ez9)
  refine x_getI C (N := 129) (i := k1) (Nat.lt_of_succ_lt hk1.1) hk1.2.1 vc_X5 wx_X5 4 (by decide) wf_X5_32 rfl dX5_copy_34 (a := z9) ez9 ?_
  refine x_putI C (N := 129) (i := k0) (Nat.lt_of_succ_lt hk0.1) hk0.2.1 vc_X5 wx_X5 4 (by decide) wf_X5_32 tyX5 tyX5_ok nmX5 rfl (tyX5_ok 4 (by decide)) rfl dX5_copy_37 rfl rfl ?_
  refine x_gV ?_
  intro V10 hV10
  have hI10 : XI G V10 := hI8.up hV10 (rg_P hk0 4) (by omega) (hpU _)
  have hB10 := hB8.up hV10 (⟨Nat.le_refl _, by omega⟩)
  replace hF := hF.to (rdb_e (z := V10) hV10.symm)
  refine x_aload_n C.1 dX5_copy_40 0 rfl ?_
  refine x_aload_n C.1 dX5_copy_41 1 rfl ?_
  obtain ⟨z11, ez11, bz11⟩ := hI10.rd k1 5 (x := -2147483648) (y := 2147483647) (rg_P hk1 5)
  replace hF := hF.to (rdb_e (z := z11) ez11)
  refine x_getI C (N := 129) (i := k1) (Nat.lt_of_succ_lt hk1.1) hk1.2.1 vc_X5 wx_X5 5 (by decide) wf_X5_35 rfl dX5_copy_42 (a := z11) ez11 ?_
  refine x_putI C (N := 129) (i := k0) (Nat.lt_of_succ_lt hk0.1) hk0.2.1 vc_X5 wx_X5 5 (by decide) wf_X5_35 tyX5 tyX5_ok nmX5 rfl (tyX5_ok 5 (by decide)) rfl dX5_copy_45 rfl rfl ?_
  refine x_gV ?_
  intro V12 hV12
  have hI12 : XI G V12 := hI10.up hV12 (rg_P hk0 5) (by omega) (hpU _)
  have hB12 := hB10.up hV12 (⟨Nat.le_refl _, by omega⟩)
  replace hF := hF.to (rdb_e (z := V12) hV12.symm)
  refine x_aload_n C.1 dX5_copy_48 0 rfl ?_
  refine x_aload_n C.1 dX5_copy_49 1 rfl ?_
  obtain ⟨z13, ez13, bz13⟩ := hI12.rd k1 6 (x := 0) (y := 1) (rg_P hk1 6)
  replace hF := hF.to (rdb_e (z := z13) ez13)
  replace hF := hF.fc bz13
  refine x_getI C (N := 129) (i := k1) (Nat.lt_of_succ_lt hk1.1) hk1.2.1 vc_X5 wx_X5 6 (by decide) wf_X5_38 rfl dX5_copy_50 (a := z13) ez13 ?_
  refine x_putI C (N := 129) (i := k0) (Nat.lt_of_succ_lt hk0.1) hk0.2.1 vc_X5 wx_X5 6 (by decide) wf_X5_38 tyX5 tyX5_ok nmX5 rfl (tyX5_ok 6 (by decide)) rfl dX5_copy_53 (z_nar (by omega)) (z_fit (by omega)) ?_
  refine x_gV ?_
  intro V14 hV14
  have hI14 : XI G V14 := hI12.up hV14 (rg_P hk0 6) (by omega) (hpU _)
  have hB14 := hB12.up hV14 (⟨Nat.le_refl _, by omega⟩)
  replace hF := hF.to (rdb_e (z := V14) hV14.symm)
  refine x_aload_n C.1 dX5_copy_56 0 rfl ?_
  refine x_aload_n C.1 dX5_copy_57 1 rfl ?_
  obtain ⟨z15, ez15, bz15⟩ := hI14.rd k1 7 (x := -2147483648) (y := 2147483647) (rg_P hk1 7)
  replace hF := hF.to (rdb_e (z := z15) ez15)
  refine x_getI C (N := 129) (i := k1) (Nat.lt_of_succ_lt hk1.1) hk1.2.1 vc_X5 wx_X5 7 (by decide) wf_X5_9 rfl dX5_copy_58 (a := z15) ez15 ?_
  refine x_putI C (N := 129) (i := k0) (Nat.lt_of_succ_lt hk0.1) hk0.2.1 vc_X5 wx_X5 7 (by decide) wf_X5_9 tyX5 tyX5_ok nmX5 rfl (tyX5_ok 7 (by decide)) rfl dX5_copy_61 rfl rfl ?_
  refine x_gV ?_
  intro V16 hV16
  have hI16 : XI G V16 := hI14.up hV16 (rg_P hk0 7) (by omega) (hpU _)
  have hB16 := hB14.up hV16 (⟨Nat.le_refl _, by omega⟩)
  replace hF := hF.to (rdb_e (z := V16) hV16.symm)
  refine x_aload_n C.1 dX5_copy_64 1 rfl ?_
  refine x_getA C (N := 129) (i := k1) (Nat.lt_of_succ_lt hk1.1) hk1.2.1 vc_X5 wx_X5 8 (by decide) wf_X5_15 (a := k1 + 1) rfl dX5_copy_65 ?_
  refine x_iconst C.1 (n := 0) dX5_copy_68 ?_
  refine x_aload_n C.1 dX5_copy_69 0 rfl ?_
  refine x_getA C (N := 129) (i := k0) (Nat.lt_of_succ_lt hk0.1) hk0.2.1 vc_X5 wx_X5 8 (by decide) wf_X5_15 (a := k0 + 1) rfl dX5_copy_70 ?_
  refine x_iconst C.1 (n := 0) dX5_copy_73 ?_
  refine x_bipush C.1 (n := 7) dX5_copy_74 ?_
  refine x_copyi C wl_X5_47 (N := 129) (i := k1 + 1) (j := k0 + 1) hk1.1 hk0.1 hk1.2.2 hk0.2.2 0 0 7 (by decide) (by decide) (by decide) (by decide) (Nat.le_of_ble_eq_true rfl) (Nat.le_of_ble_eq_true rfl) dX5_copy_76 ?_
  refine x_gV ?_
  intro V17 hV17
  have hI17 : XI G V17 := XI.cp hI16 hV17 (x := -2147483648) (y := 2147483647) (fun _ => (rg_K hk1 _)) (fun _ => (rg_K hk0 _)) (fun _ => (pr_K hk0 _))
  have hB17 := hB16.cp hV17 (fun k => (⟨by omega, by omega⟩))
  replace hF := hF.to (rdb_e (z := V17) hV17.symm)
  exact x_vret (S := (Nat → Nat → Int)) (post := (fun u : Nat → Nat → Int => XI G u ∧ FB (fun i k : Nat => (k0 ≤ i ∧ i ≤ k0 + 1)) V u ∧ (f_s_copyP k0 k1 V J Rr) u)) (w1 := (fun u : Nat → Nat → Int => XW cy ad u J Rr)) C hr rfl dX5_copy_79 V17 rfl ⟨hI17, hB17, hF _ rfl⟩
theorem hd_yX4_copy : yX4_copy.cls ≠ "java/lang/invoke/MethodHandle" ∧ yX4_copy.cls ≠ "java/lang/invoke/VarHandle" ∧ (parseMethodDescriptor yX4_copy.desc).map (fun d => d.parameters.length) = some 1 := by decide +kernel
theorem hd_yX5_copy : yX5_copy.cls ≠ "java/lang/invoke/MethodHandle" ∧ yX5_copy.cls ≠ "java/lang/invoke/VarHandle" ∧ (parseMethodDescriptor yX5_copy.desc).map (fun d => d.parameters.length) = some 1 := by decide +kernel
theorem dX3_copy_0 : decode cX3_copy 0 = .ok (.iconst 0, 1) := by decide +kernel
theorem dX3_copy_1 : decode cX3_copy 1 = .ok (.istore_n 2, 1) := by decide +kernel
theorem dX3_copy_2 : decode cX3_copy 2 = .ok (.iload_n 2, 1) := by decide +kernel
theorem dX3_copy_3 : decode cX3_copy 3 = .ok (.iconst 4, 1) := by decide +kernel
theorem dX3_copy_4 : decode cX3_copy 4 = .ok (.if_icmp .ge 24, 3) := by decide +kernel
theorem dX3_copy_7 : decode cX3_copy 7 = .ok (.aload_n 0, 1) := by decide +kernel
theorem dX3_copy_8 : decode cX3_copy 8 = .ok (.getfield 11, 3) := by decide +kernel
theorem dX3_copy_11 : decode cX3_copy 11 = .ok (.iload_n 2, 1) := by decide +kernel
theorem dX3_copy_12 : decode cX3_copy 12 = .ok (.aaload, 1) := by decide +kernel
theorem dX3_copy_13 : decode cX3_copy 13 = .ok (.aload_n 1, 1) := by decide +kernel
theorem dX3_copy_14 : decode cX3_copy 14 = .ok (.getfield 11, 3) := by decide +kernel
theorem dX3_copy_17 : decode cX3_copy 17 = .ok (.iload_n 2, 1) := by decide +kernel
theorem dX3_copy_18 : decode cX3_copy 18 = .ok (.aaload, 1) := by decide +kernel
theorem dX3_copy_19 : decode cX3_copy 19 = .ok (.invokevirtual 29, 3) := by decide +kernel
theorem dX3_copy_22 : decode cX3_copy 22 = .ok (.iinc 2 1, 3) := by decide +kernel
theorem dX3_copy_25 : decode cX3_copy 25 = .ok (.goto (-23), 3) := by decide +kernel
theorem dX3_copy_28 : decode cX3_copy 28 = .ok (.iconst 0, 1) := by decide +kernel
theorem dX3_copy_29 : decode cX3_copy 29 = .ok (.istore_n 2, 1) := by decide +kernel
theorem dX3_copy_30 : decode cX3_copy 30 = .ok (.iload_n 2, 1) := by decide +kernel
theorem dX3_copy_31 : decode cX3_copy 31 = .ok (.bipush 8, 2) := by decide +kernel
theorem dX3_copy_33 : decode cX3_copy 33 = .ok (.if_icmp .ge 24, 3) := by decide +kernel
theorem dX3_copy_36 : decode cX3_copy 36 = .ok (.aload_n 0, 1) := by decide +kernel
theorem dX3_copy_37 : decode cX3_copy 37 = .ok (.getfield 19, 3) := by decide +kernel
theorem dX3_copy_40 : decode cX3_copy 40 = .ok (.iload_n 2, 1) := by decide +kernel
theorem dX3_copy_41 : decode cX3_copy 41 = .ok (.aaload, 1) := by decide +kernel
theorem dX3_copy_42 : decode cX3_copy 42 = .ok (.aload_n 1, 1) := by decide +kernel
theorem dX3_copy_43 : decode cX3_copy 43 = .ok (.getfield 19, 3) := by decide +kernel
theorem dX3_copy_46 : decode cX3_copy 46 = .ok (.iload_n 2, 1) := by decide +kernel
theorem dX3_copy_47 : decode cX3_copy 47 = .ok (.aaload, 1) := by decide +kernel
theorem dX3_copy_48 : decode cX3_copy 48 = .ok (.invokevirtual 33, 3) := by decide +kernel
theorem dX3_copy_51 : decode cX3_copy 51 = .ok (.iinc 2 1, 3) := by decide +kernel
theorem dX3_copy_54 : decode cX3_copy 54 = .ok (.goto (-24), 3) := by decide +kernel
theorem dX3_copy_57 : decode cX3_copy 57 = .ok (.aload_n 0, 1) := by decide +kernel
theorem dX3_copy_58 : decode cX3_copy 58 = .ok (.aload_n 1, 1) := by decide +kernel
theorem dX3_copy_59 : decode cX3_copy 59 = .ok (.getfield 36, 3) := by decide +kernel
theorem dX3_copy_62 : decode cX3_copy 62 = .ok (.putfield 36, 3) := by decide +kernel
theorem dX3_copy_65 : decode cX3_copy 65 = .ok (.aload_n 0, 1) := by decide +kernel
theorem dX3_copy_66 : decode cX3_copy 66 = .ok (.aload_n 1, 1) := by decide +kernel
theorem dX3_copy_67 : decode cX3_copy 67 = .ok (.getfield 39, 3) := by decide +kernel
theorem dX3_copy_70 : decode cX3_copy 70 = .ok (.putfield 39, 3) := by decide +kernel
theorem dX3_copy_73 : decode cX3_copy 73 = .ok (.aload_n 0, 1) := by decide +kernel
theorem dX3_copy_74 : decode cX3_copy 74 = .ok (.aload_n 1, 1) := by decide +kernel
theorem dX3_copy_75 : decode cX3_copy 75 = .ok (.getfield 23, 3) := by decide +kernel
theorem dX3_copy_78 : decode cX3_copy 78 = .ok (.putfield 23, 3) := by decide +kernel
theorem dX3_copy_81 : decode cX3_copy 81 = .ok (.return_, 1) := by decide +kernel
set_option maxRecDepth 100000 in
def f_s_copyT (V : Nat → Nat → Int) (J : Nat → Nat → Int) (Rr : Nat → Nat → Nat) : (Nat → Nat → Int) → Prop :=
  lop2 (6) (fun rc161 (z160 : Int) (V161 : Nat → Nat → Int) => (if 4 ≤ z160 then lop2 (10) (fun rc288 (z287 : Int) (V288 : Nat → Nat → Int) => (if 8 ≤ z287 then rdb (V288 1 2) fun z306 => rdb (up2 V288 39 2 z306) fun V307 => rdb (V307 1 3) fun z308 => rdb (up2 V307 39 3 z308) fun V309 => rdb (V309 1 4) fun z310 => rdb (up2 V309 39 4 z310) fun V311 => rtn V311 else rdb (39 + 11 + 1 * z287.toNat) fun c312 => rdb (1 + 11 + 1 * z287.toNat) fun c313 => calUX (fun i k : Nat => (c312 ≤ i ∧ i ≤ c312)) V288 (f_s_copyE c312 c313 V288 J Rr) fun V314 => rc288 (z287 + 1) V314)) 0 V161 else rdb (39 + 3 + 2 * z160.toNat) fun c315 => rdb (1 + 3 + 2 * z160.toNat) fun c316 => calUX (fun i k : Nat => (c315 ≤ i ∧ i ≤ c315 + 1)) V161 (f_s_copyP c315 c316 V161 J Rr) fun V317 => rc161 (z160 + 1) V317)) 0 V
set_option maxHeartbeats 8000000 in
set_option maxRecDepth 100000 in
theorem s_copyT (l : Launch) (D : va_G) (cy : Nat → ClassId) (ad : Nat → Nat) (G : Nat → Nat → Int) (V J : Nat → Nat → Int) (Rr : Nat → Nat → Nat) (hI : XI G V) (hJ : VJ J) (hR : XR Rr)  : xMv l D (xTY cy) yX3_copy cX3_copy 3 none 2 69 0 0 [.ref (ad 39), .ref (ad 1)] (XW cy ad V J Rr) (fun u : Nat → Nat → Int => XW cy ad u J Rr) (fun u : Nat → Nat → Int => XI G u ∧ FB (fun i k : Nat => (39 ≤ i ∧ i ≤ 57)) V u ∧ (f_s_copyT V J Rr) u) := by
  refine xMv.mk (lv0 := [(0, .ref (ad 39)), (1, .ref (ad 1))]) (by decide) rfl (Nat.le_of_ble_eq_true rfl) (fun p e s m below meth c A C hr hnm hAe => ?_)
  have C : xC2 p s m _ meth c D A s.heap 3 cX3_copy RX3 (xTY cy) := C
  have hB : FB (fun i k : Nat => (39 ≤ i ∧ i ≤ 57)) V V := FB.rf _ _
  have hF := Imp.of_eq (f_s_copyT.eq_def V J Rr)
  refine x_iconst C.1 (n := 0) dX3_copy_0 ?_
  refine x_istore_n C.1 (lv' := [(2, vI 0), (0, .ref (ad 39)), (1, .ref (ad 1))]) dX3_copy_1 (by decide) rfl ?_
  obtain ⟨bd161, hbd161, hF⟩ := lop2_ex hF
  refine x_loop (I := fun x : Int × (Nat → Nat → Int) => match x with | (z160, V161) => (0 ≤ z160 ∧ z160 ≤ 4) ∧ XI G V161 ∧ FB (fun i k : Nat => (39 ≤ i ∧ i ≤ 57)) V V161 ∧ (∃ nf : Nat, (5 - z160).toNat < nf ∧ Imp (lop2 nf bd161 z160 V161) (f_s_copyT V J Rr))) (μ := fun x : Int × (Nat → Nat → Int) => match x with | (z160, V161) => (5 - z160).toNat) (wsf := fun x : Int × (Nat → Nat → Int) => match x with | (z160, V161) => XW cy ad V161 J Rr) (lvf := fun x : Int × (Nat → Nat → Int) => match x with | (z160, V161) => [(2, vI z160), (0, .ref (ad 39)), (1, .ref (ad 1))]) (fun x hI161x ih161 => ?_) (0, V) ⟨⟨by decide, by decide⟩, hI, hB, ⟨_, (by omega), hF⟩⟩ rfl rfl
  obtain ⟨z160, V161⟩ := x
  obtain ⟨bz160, hI161, hB161, nf161, hn161, hF⟩ := hI161x
  try dsimp only
  obtain ⟨nf161, rfl⟩ : ∃ mm, nf161 = mm + 1 := ⟨nf161 - 1, (Nat.succ_pred_eq_of_pos (Nat.lt_of_le_of_lt (Nat.zero_le _) hn161)).symm⟩
  replace hF := hF.to (lop2_s hbd161)
  refine x_iload_n C.1 dX3_copy_2 0 rfl ?_
  refine x_iconst C.1 (n := 4) dX3_copy_3 ?_
  refine x_icmp_ge C.1 (tgt := 28) dX3_copy_4 (by decide) (by omega) (by decide) (fun hc243 => ?_) (fun hc243 => ?_)
  · replace hF := hF.to (if_pos hc243)
    refine x_iconst C.1 (n := 0) dX3_copy_28 ?_
    refine x_istore_n C.1 (lv' := [(2, vI 0), (0, .ref (ad 39)), (1, .ref (ad 1))]) dX3_copy_29 (by decide) rfl ?_
    obtain ⟨bd288, hbd288, hF⟩ := lop2_ex hF
    refine x_loop (I := fun x : Int × (Nat → Nat → Int) => match x with | (z287, V288) => (0 ≤ z287 ∧ z287 ≤ 8) ∧ XI G V288 ∧ FB (fun i k : Nat => (39 ≤ i ∧ i ≤ 57)) V V288 ∧ (∃ nf : Nat, (9 - z287).toNat < nf ∧ Imp (lop2 nf bd288 z287 V288) (f_s_copyT V J Rr))) (μ := fun x : Int × (Nat → Nat → Int) => match x with | (z287, V288) => (9 - z287).toNat) (wsf := fun x : Int × (Nat → Nat → Int) => match x with | (z287, V288) => XW cy ad V288 J Rr) (lvf := fun x : Int × (Nat → Nat → Int) => match x with | (z287, V288) => [(2, vI z287), (0, .ref (ad 39)), (1, .ref (ad 1))]) (fun x hI288x ih288 => ?_) (0, V161) ⟨⟨by decide, by decide⟩, hI161, hB161, ⟨_, (by omega), hF⟩⟩ rfl rfl
    obtain ⟨z287, V288⟩ := x
    obtain ⟨bz287, hI288, hB288, nf288, hn288, hF⟩ := hI288x
    try dsimp only
    obtain ⟨nf288, rfl⟩ : ∃ mm, nf288 = mm + 1 := ⟨nf288 - 1, (Nat.succ_pred_eq_of_pos (Nat.lt_of_le_of_lt (Nat.zero_le _) hn288)).symm⟩
    replace hF := hF.to (lop2_s hbd288)
    refine x_iload_n C.1 dX3_copy_30 0 rfl ?_
    refine x_bipush C.1 (n := 8) dX3_copy_31 ?_
    refine x_icmp_ge C.1 (tgt := 57) dX3_copy_33 (by decide) (by omega) (by decide) (fun hc305 => ?_) (fun hc305 => ?_)
    · replace hF := hF.to (if_pos hc305)
      refine x_aload_n C.1 dX3_copy_57 1 rfl ?_
      refine x_aload_n C.1 dX3_copy_58 2 rfl ?_
      obtain ⟨z306, ez306, bz306⟩ := hI288.rd 1 2 (x := -2147483648) (y := 2147483647) (rg_L (Or.inl rfl) _)
      replace hF := hF.to (rdb_e (z := z306) ez306)
      refine x_getI C (N := 129) (i := 1) (by omega) (xd_L (Or.inl rfl)) vc_X3 wx_X3 2 (by decide) wf_X3_36 rfl dX3_copy_59 (a := z306) ez306 ?_
      refine x_putI C (N := 129) (i := 39) (by omega) (xd_L (Or.inr (Or.inr rfl))) vc_X3 wx_X3 2 (by decide) wf_X3_36 tyX3 tyX3_ok nmX3 rfl (tyX3_ok 2 (by decide)) rfl dX3_copy_62 rfl rfl ?_
      refine x_gV ?_
      intro V307 hV307
      have hI307 : XI G V307 := hI288.up hV307 (rg_L (Or.inr (Or.inr rfl)) _) (by omega) (pr_L (Or.inr (Or.inr rfl)) _)
      have hB307 := hB288.up hV307 (⟨by decide, by decide⟩)
      replace hF := hF.to (rdb_e (z := V307) hV307.symm)
      refine x_aload_n C.1 dX3_copy_65 1 rfl ?_
      refine x_aload_n C.1 dX3_copy_66 2 rfl ?_
      obtain ⟨z308, ez308, bz308⟩ := hI307.rd 1 3 (x := -2147483648) (y := 2147483647) (rg_L (Or.inl rfl) _)
      replace hF := hF.to (rdb_e (z := z308) ez308)
      refine x_getI C (N := 129) (i := 1) (by omega) (xd_L (Or.inl rfl)) vc_X3 wx_X3 3 (by decide) wf_X3_39 rfl dX3_copy_67 (a := z308) ez308 ?_
      refine x_putI C (N := 129) (i := 39) (by omega) (xd_L (Or.inr (Or.inr rfl))) vc_X3 wx_X3 3 (by decide) wf_X3_39 tyX3 tyX3_ok nmX3 rfl (tyX3_ok 3 (by decide)) rfl dX3_copy_70 rfl rfl ?_
      refine x_gV ?_
      intro V309 hV309
      have hI309 : XI G V309 := hI307.up hV309 (rg_L (Or.inr (Or.inr rfl)) _) (by omega) (pr_L (Or.inr (Or.inr rfl)) _)
      have hB309 := hB307.up hV309 (⟨by decide, by decide⟩)
      replace hF := hF.to (rdb_e (z := V309) hV309.symm)
      refine x_aload_n C.1 dX3_copy_73 1 rfl ?_
      refine x_aload_n C.1 dX3_copy_74 2 rfl ?_
      obtain ⟨z310, ez310, bz310⟩ := hI309.rd 1 4 (x := -2147483648) (y := 2147483647) (rg_L (Or.inl rfl) _)
      replace hF := hF.to (rdb_e (z := z310) ez310)
      refine x_getI C (N := 129) (i := 1) (by omega) (xd_L (Or.inl rfl)) vc_X3 wx_X3 4 (by decide) wf_X3_23 rfl dX3_copy_75 (a := z310) ez310 ?_
      refine x_putI C (N := 129) (i := 39) (by omega) (xd_L (Or.inr (Or.inr rfl))) vc_X3 wx_X3 4 (by decide) wf_X3_23 tyX3 tyX3_ok nmX3 rfl (tyX3_ok 4 (by decide)) rfl dX3_copy_78 rfl rfl ?_
      refine x_gV ?_
      intro V311 hV311
      have hI311 : XI G V311 := hI309.up hV311 (rg_L (Or.inr (Or.inr rfl)) _) (by omega) (pr_L (Or.inr (Or.inr rfl)) _)
      have hB311 := hB309.up hV311 (⟨by decide, by decide⟩)
      replace hF := hF.to (rdb_e (z := V311) hV311.symm)
      exact x_vret (S := (Nat → Nat → Int)) (post := (fun u : Nat → Nat → Int => XI G u ∧ FB (fun i k : Nat => (39 ≤ i ∧ i ≤ 57)) V u ∧ (f_s_copyT V J Rr) u)) (w1 := (fun u : Nat → Nat → Int => XW cy ad u J Rr)) C hr rfl dX3_copy_81 V311 rfl ⟨hI311, hB311, hF _ rfl⟩
    · replace hF := hF.to (if_neg hc305)
      refine x_aload_n C.1 dX3_copy_36 1 rfl ?_
      refine x_getA C (N := 129) (i := 39) (by omega) (xd_L (Or.inr (Or.inr rfl))) vc_X3 wx_X3 1 (by decide) wf_X3_19 (a := 41) rfl dX3_copy_37 ?_
      refine x_iload_n C.1 dX3_copy_40 0 rfl ?_
      obtain ⟨c312, ec312, hc312⟩ : ∃ cx : Nat, 39 + 11 + 1 * z287.toNat = cx ∧ isPe cx := ⟨_, rfl, isPe_L (Or.inr (Or.inr rfl)) (by omega)⟩
      replace hF := hF.to (rdb_e (z := c312) ec312)
      refine x_aldS C (N := 129) (i := 41) (q := z287) (t := 5) rfl (by omega) (xd_Lb (Or.inr (Or.inr rfl))) (by omega) (by decide) dX3_copy_41 (a := c312) ec312 ?_
      refine x_aload_n C.1 dX3_copy_42 2 rfl ?_
      refine x_getA C (N := 129) (i := 1) (by omega) (xd_L (Or.inl rfl)) vc_X3 wx_X3 1 (by decide) wf_X3_19 (a := 3) rfl dX3_copy_43 ?_
      refine x_iload_n C.1 dX3_copy_46 0 rfl ?_
      obtain ⟨c313, ec313, hc313⟩ : ∃ cx : Nat, 1 + 11 + 1 * z287.toNat = cx ∧ isPe cx := ⟨_, rfl, isPe_L (Or.inl rfl) (by omega)⟩
      replace hF := hF.to (rdb_e (z := c313) ec313)
      refine x_aldS C (N := 129) (i := 3) (q := z287) (t := 5) rfl (by omega) (xd_Lb (Or.inl rfl)) (by omega) (by decide) dX3_copy_47 (a := c313) ec313 ?_
      refine x_callVv C (As := [.ref (ad c313)]) (rest := []) c312 (xw_at (N := 129) (i := c312) hc312.1 hc312.2) vc_X4 (s_copyE l D cy ad G V288 J Rr hI288 hJ hR c312 hc312 c313 hc313) (l1 := []) (l2 := []) (List.append_nil _).symm (w2 := fun u : Nat → Nat → Int => XW cy ad u J Rr) (fun _ => List.append_nil _) rfl wm_yX4_copy wn_X4 wl_X3_33 wi_yX4_copy we_yX4_copy hd_yX4_copy rfl ⟨Nat.le_of_ble_eq_true rfl, Nat.le_of_ble_eq_true rfl⟩ (Nat.le_of_ble_eq_true rfl) ⟨Nat.le_of_ble_eq_true rfl, Nat.le_of_ble_eq_true rfl⟩ dX3_copy_48 (fun V314 h314 => ?_)
      obtain ⟨hI314, hBc314, hFc314⟩ := h314
      replace hF := calUX_i hF hFc314 hBc314
      have hB314 := hB288.tr hBc314 (fun i k h => (⟨by omega, by omega⟩))
      refine x_iinc C.1 (v := z287 + 1) (lv' := [(2, vI (z287 + 1)), (0, .ref (ad 39)), (1, .ref (ad 1))]) (by omega) dX3_copy_51 0 rfl (by decide) rfl ?_
      refine x_goto C.1 (tgt := 30) dX3_copy_54 (by decide) ?_
      have hmu288 : (9 - (z287 + 1)).toNat < (9 - z287).toNat := (by omega)
      exact ih288 (z287 + 1, V314) ⟨⟨by omega, by omega⟩, hI314, hB314, ⟨nf288, Nat.lt_of_lt_of_le hmu288 (Nat.le_of_lt_succ hn288), hF⟩⟩ hmu288
  · replace hF := hF.to (if_neg hc243)
    refine x_aload_n C.1 dX3_copy_7 1 rfl ?_
    refine x_getA C (N := 129) (i := 39) (by omega) (xd_L (Or.inr (Or.inr rfl))) vc_X3 wx_X3 0 (by decide) wf_X3_11 (a := 40) rfl dX3_copy_8 ?_
    refine x_iload_n C.1 dX3_copy_11 0 rfl ?_
    obtain ⟨c315, ec315, hc315⟩ : ∃ cx : Nat, 39 + 3 + 2 * z160.toNat = cx ∧ isPl cx := ⟨_, rfl, isPl_L (Or.inr (Or.inr rfl)) (by omega)⟩
    replace hF := hF.to (rdb_e (z := c315) ec315)
    refine x_aldS C (N := 129) (i := 40) (q := z160) (t := 4) rfl (by omega) (xd_La (Or.inr (Or.inr rfl))) (by omega) (by decide) dX3_copy_12 (a := c315) ec315 ?_
    refine x_aload_n C.1 dX3_copy_13 2 rfl ?_
    refine x_getA C (N := 129) (i := 1) (by omega) (xd_L (Or.inl rfl)) vc_X3 wx_X3 0 (by decide) wf_X3_11 (a := 2) rfl dX3_copy_14 ?_
    refine x_iload_n C.1 dX3_copy_17 0 rfl ?_
    obtain ⟨c316, ec316, hc316⟩ : ∃ cx : Nat, 1 + 3 + 2 * z160.toNat = cx ∧ isPl cx := ⟨_, rfl, isPl_L (Or.inl rfl) (by omega)⟩
    replace hF := hF.to (rdb_e (z := c316) ec316)
    refine x_aldS C (N := 129) (i := 2) (q := z160) (t := 4) rfl (by omega) (xd_La (Or.inl rfl)) (by omega) (by decide) dX3_copy_18 (a := c316) ec316 ?_
    refine x_callVv C (As := [.ref (ad c316)]) (rest := []) c315 (xw_at (N := 129) (i := c315) (Nat.lt_of_succ_lt hc315.1) hc315.2.1) vc_X5 (s_copyP l D cy ad G V161 J Rr hI161 hJ hR c315 hc315 c316 hc316 (fun k => pr_39 ec315 (by omega) k)) (l1 := []) (l2 := []) (List.append_nil _).symm (w2 := fun u : Nat → Nat → Int => XW cy ad u J Rr) (fun _ => List.append_nil _) rfl wm_yX5_copy wn_X5 wl_X3_29 wi_yX5_copy we_yX5_copy hd_yX5_copy rfl ⟨Nat.le_of_ble_eq_true rfl, Nat.le_of_ble_eq_true rfl⟩ (Nat.le_of_ble_eq_true rfl) ⟨Nat.le_of_ble_eq_true rfl, Nat.le_of_ble_eq_true rfl⟩ dX3_copy_19 (fun V317 h317 => ?_)
    obtain ⟨hI317, hBc317, hFc317⟩ := h317
    replace hF := calUX_i hF hFc317 hBc317
    have hB317 := hB161.tr hBc317 (fun i k h => (⟨by omega, by omega⟩))
    refine x_iinc C.1 (v := z160 + 1) (lv' := [(2, vI (z160 + 1)), (0, .ref (ad 39)), (1, .ref (ad 1))]) (by omega) dX3_copy_22 0 rfl (by decide) rfl ?_
    refine x_goto C.1 (tgt := 2) dX3_copy_25 (by decide) ?_
    have hmu161 : (5 - (z160 + 1)).toNat < (5 - z160).toNat := (by omega)
    exact ih161 (z160 + 1, V317) ⟨⟨by omega, by omega⟩, hI317, hB317, ⟨nf161, Nat.lt_of_lt_of_le hmu161 (Nat.le_of_lt_succ hn161), hF⟩⟩ hmu161
theorem hd_yX1_gift : yX1_gift.cls ≠ "java/lang/invoke/MethodHandle" ∧ yX1_gift.cls ≠ "java/lang/invoke/VarHandle" ∧ (parseMethodDescriptor yX1_gift.desc).map (fun d => d.parameters.length) = some 3 := by decide +kernel
theorem hd_yX3_isAlive : yX3_isAlive.cls ≠ "java/lang/invoke/MethodHandle" ∧ yX3_isAlive.cls ≠ "java/lang/invoke/VarHandle" ∧ (parseMethodDescriptor yX3_isAlive.desc).map (fun d => d.parameters.length) = some 1 := by decide +kernel
theorem hd_yX3_isPerson : yX3_isPerson.cls ≠ "java/lang/invoke/MethodHandle" ∧ yX3_isPerson.cls ≠ "java/lang/invoke/VarHandle" ∧ (parseMethodDescriptor yX3_isPerson.desc).map (fun d => d.parameters.length) = some 1 := by decide +kernel
theorem hd_yX5_wetBy : yX5_wetBy.cls ≠ "java/lang/invoke/MethodHandle" ∧ yX5_wetBy.cls ≠ "java/lang/invoke/VarHandle" ∧ (parseMethodDescriptor yX5_wetBy.desc).map (fun d => d.parameters.length) = some 1 := by decide +kernel
theorem dX3_giveTo_0 : decode cX3_giveTo 0 = .ok (.aload_n 0, 1) := by decide +kernel
theorem dX3_giveTo_1 : decode cX3_giveTo 1 = .ok (.iload_n 2, 1) := by decide +kernel
theorem dX3_giveTo_2 : decode cX3_giveTo 2 = .ok (.invokevirtual 95, 3) := by decide +kernel
theorem dX3_giveTo_5 : decode cX3_giveTo 5 = .ok (.ifCond .eq 11, 3) := by decide +kernel
theorem dX3_giveTo_8 : decode cX3_giveTo 8 = .ok (.aload_n 0, 1) := by decide +kernel
theorem dX3_giveTo_9 : decode cX3_giveTo 9 = .ok (.iload_n 3, 1) := by decide +kernel
theorem dX3_giveTo_10 : decode cX3_giveTo 10 = .ok (.invokevirtual 88, 3) := by decide +kernel
theorem dX3_giveTo_13 : decode cX3_giveTo 13 = .ok (.ifCond .ne 4, 3) := by decide +kernel
theorem dX3_giveTo_16 : decode cX3_giveTo 16 = .ok (.return_, 1) := by decide +kernel
theorem dX3_giveTo_17 : decode cX3_giveTo 17 = .ok (.aload_n 0, 1) := by decide +kernel
theorem dX3_giveTo_18 : decode cX3_giveTo 18 = .ok (.getfield 11, 3) := by decide +kernel
theorem dX3_giveTo_21 : decode cX3_giveTo 21 = .ok (.iload_n 3, 1) := by decide +kernel
theorem dX3_giveTo_22 : decode cX3_giveTo 22 = .ok (.aaload, 1) := by decide +kernel
theorem dX3_giveTo_23 : decode cX3_giveTo 23 = .ok (.astore 4, 2) := by decide +kernel
theorem dX3_giveTo_25 : decode cX3_giveTo 25 = .ok (.aload_n 1, 1) := by decide +kernel
theorem dX3_giveTo_26 : decode cX3_giveTo 26 = .ok (.aload_n 0, 1) := by decide +kernel
theorem dX3_giveTo_27 : decode cX3_giveTo 27 = .ok (.iload_n 2, 1) := by decide +kernel
theorem dX3_giveTo_28 : decode cX3_giveTo 28 = .ok (.iload_n 3, 1) := by decide +kernel
theorem dX3_giveTo_29 : decode cX3_giveTo 29 = .ok (.invokevirtual 98, 3) := by decide +kernel
theorem dX3_giveTo_32 : decode cX3_giveTo 32 = .ok (.istore 5, 2) := by decide +kernel
theorem dX3_giveTo_34 : decode cX3_giveTo 34 = .ok (.aload_n 0, 1) := by decide +kernel
theorem dX3_giveTo_35 : decode cX3_giveTo 35 = .ok (.getfield 19, 3) := by decide +kernel
theorem dX3_giveTo_38 : decode cX3_giveTo 38 = .ok (.iload_n 2, 1) := by decide +kernel
theorem dX3_giveTo_39 : decode cX3_giveTo 39 = .ok (.aaload, 1) := by decide +kernel
theorem dX3_giveTo_40 : decode cX3_giveTo 40 = .ok (.dup, 1) := by decide +kernel
theorem dX3_giveTo_41 : decode cX3_giveTo 41 = .ok (.getfield 52, 3) := by decide +kernel
theorem dX3_giveTo_44 : decode cX3_giveTo 44 = .ok (.iload 5, 2) := by decide +kernel
theorem dX3_giveTo_46 : decode cX3_giveTo 46 = .ok (.iadd, 1) := by decide +kernel
theorem dX3_giveTo_47 : decode cX3_giveTo 47 = .ok (.putfield 52, 3) := by decide +kernel
theorem dX3_giveTo_50 : decode cX3_giveTo 50 = .ok (.aload_n 0, 1) := by decide +kernel
theorem dX3_giveTo_51 : decode cX3_giveTo 51 = .ok (.dup, 1) := by decide +kernel
theorem dX3_giveTo_52 : decode cX3_giveTo 52 = .ok (.getfield 69, 3) := by decide +kernel
theorem dX3_giveTo_55 : decode cX3_giveTo 55 = .ok (.iload 5, 2) := by decide +kernel
theorem dX3_giveTo_57 : decode cX3_giveTo 57 = .ok (.iadd, 1) := by decide +kernel
theorem dX3_giveTo_58 : decode cX3_giveTo 58 = .ok (.putfield 69, 3) := by decide +kernel
theorem dX3_giveTo_61 : decode cX3_giveTo 61 = .ok (.aload_n 0, 1) := by decide +kernel
theorem dX3_giveTo_62 : decode cX3_giveTo 62 = .ok (.dup, 1) := by decide +kernel
theorem dX3_giveTo_63 : decode cX3_giveTo 63 = .ok (.getfield 70, 3) := by decide +kernel
theorem dX3_giveTo_66 : decode cX3_giveTo 66 = .ok (.aload 4, 2) := by decide +kernel
theorem dX3_giveTo_68 : decode cX3_giveTo 68 = .ok (.iload 5, 2) := by decide +kernel
theorem dX3_giveTo_70 : decode cX3_giveTo 70 = .ok (.invokevirtual 104, 3) := by decide +kernel
theorem dX3_giveTo_73 : decode cX3_giveTo 73 = .ok (.iadd, 1) := by decide +kernel
theorem dX3_giveTo_74 : decode cX3_giveTo 74 = .ok (.putfield 70, 3) := by decide +kernel
theorem dX3_giveTo_77 : decode cX3_giveTo 77 = .ok (.iload 5, 2) := by decide +kernel
theorem dX3_giveTo_79 : decode cX3_giveTo 79 = .ok (.ifCond .le 20, 3) := by decide +kernel
theorem dX3_giveTo_82 : decode cX3_giveTo 82 = .ok (.aload 4, 2) := by decide +kernel
theorem dX3_giveTo_84 : decode cX3_giveTo 84 = .ok (.getfield 108, 3) := by decide +kernel
theorem dX3_giveTo_87 : decode cX3_giveTo 87 = .ok (.ifCond .eq 12, 3) := by decide +kernel
theorem dX3_giveTo_90 : decode cX3_giveTo 90 = .ok (.aload 4, 2) := by decide +kernel
theorem dX3_giveTo_92 : decode cX3_giveTo 92 = .ok (.aload_n 0, 1) := by decide +kernel
theorem dX3_giveTo_93 : decode cX3_giveTo 93 = .ok (.getfield 39, 3) := by decide +kernel
theorem dX3_giveTo_96 : decode cX3_giveTo 96 = .ok (.putfield 111, 3) := by decide +kernel
theorem dX3_giveTo_99 : decode cX3_giveTo 99 = .ok (.return_, 1) := by decide +kernel
set_option maxRecDepth 100000 in
def f_s_giveTo (k0 : Nat) (x2 : Int) (x3 : Int) (V : Nat → Nat → Int) (J : Nat → Nat → Int) (Rr : Nat → Nat → Nat) : (Nat → Nat → Int) → Prop :=
  calR (f_s_isPerson k0 x2 V J Rr) fun z1 => fct (0 ≤ z1 ∧ z1 ≤ 1) <| (if z1 = 0 then rtn V else calR (f_s_isAlive k0 x3 V J Rr) fun z4 => fct (0 ≤ z4 ∧ z4 ≤ 1) <| (if ¬ z4 = 0 then rdb (k0 + 3 + 2 * x3.toNat) fun c7 => calVX (fun i k : Nat => (69 ≤ i ∧ i ≤ 71)) V (f_s_gift k0 x2 x3 V J Rr) fun z8 V8 => fct (0 ≤ z8 ∧ z8 ≤ 999) <| rdb (k0 + 11 + 1 * x2.toNat) fun c9 => rdb (V8 c9 3) fun z10 => rdb (wr (z10 + z8)) fun z11 => rdb (up2 V8 c9 3 z11) fun V12 => rdb (V12 k0 5) fun z13 => rdb (wr (z13 + z8)) fun z14 => rdb (up2 V12 k0 5 z14) fun V15 => rdb (V15 k0 6) fun z16 => calVX (fun i k : Nat => (c7 ≤ i ∧ i ≤ c7 + 1)) V15 (f_s_wetBy c7 z8 V15 J Rr) fun z17 V17 => rdb (wr (z16 + z17)) fun z18 => rdb (up2 V17 k0 6 z18) fun V19 => (if z8 ≤ 0 then rtn V19 else rdb (V19 c7 6) fun z21 => fct (0 ≤ z21 ∧ z21 ≤ 1) <| (if z21 = 0 then rtn V19 else rdb (V19 k0 3) fun z23 => rdb (up2 V19 c7 7 z23) fun V24 => rtn V24)) else rtn V))
set_option maxHeartbeats 8000000 in
set_option maxRecDepth 100000 in
theorem s_giveTo (l : Launch) (D : va_G) (cy : Nat → ClassId) (ad : Nat → Nat) (G : Nat → Nat → Int) (V J : Nat → Nat → Int) (Rr : Nat → Nat → Nat) (hI : XI G V) (hJ : VJ J) (hR : XR Rr) (k0 : Nat) (hk0 : isLa k0) (x2 : Int) (bx2 : -2147483648 ≤ x2 ∧ x2 ≤ 2147483647) (x3 : Int) (bx3 : -2147483648 ≤ x3 ∧ x3 ≤ 2147483647) : xMv l D (xTY cy) yX3_giveTo cX3_giveTo 6 none 4 100 0 0 [.ref (ad k0), .ref (ad 60), vI x2, vI x3] (XW cy ad V J Rr) (fun u : Nat → Nat → Int => XW cy ad u J Rr) (fun u : Nat → Nat → Int => XI G u ∧ FB (fun i k : Nat => (69 ≤ i ∧ i ≤ 71) ∨ (k0 ≤ i ∧ i ≤ k0 + 18)) V u ∧ (f_s_giveTo k0 x2 x3 V J Rr) u) := by
  refine xMv.mk (lv0 := [(0, .ref (ad k0)), (1, .ref (ad 60)), (2, vI x2), (3, vI x3)]) (by decide) rfl (Nat.le_of_ble_eq_true rfl) (fun p e s m below meth c A C hr hnm hAe => ?_)
  have C : xC2 p s m _ meth c D A s.heap 6 cX3_giveTo RX3 (xTY cy) := C
  have hB : FB (fun i k : Nat => (69 ≤ i ∧ i ≤ 71) ∨ (k0 ≤ i ∧ i ≤ k0 + 18)) V V := FB.rf _ _
  have hF := Imp.of_eq (f_s_giveTo.eq_def k0 x2 x3 V J Rr)
  refine x_aload_n C.1 dX3_giveTo_0 0 rfl ?_
  refine x_iload_n C.1 dX3_giveTo_1 2 rfl ?_
  refine x_callVi C (As := [vI x2]) (rest := []) k0 (xw_at (N := 129) (i := k0) (by omega) (xd_L hk0)) vc_X3 (s_isPerson l D cy ad G V J Rr hI hJ hR k0 hk0 x2 ⟨by omega, by omega⟩) (l1 := []) (l2 := []) (List.append_nil _).symm (w2 := fun _ => XW cy ad V J Rr) (fun _ => List.append_nil _) rfl wm_yX3_isPerson wn_X3 wl_X3_95 wi_yX3_isPerson we_yX3_isPerson hd_yX3_isPerson rfl ⟨Nat.le_of_ble_eq_true rfl, Nat.le_of_ble_eq_true rfl⟩ (Nat.le_of_ble_eq_true rfl) ⟨Nat.le_of_ble_eq_true rfl, Nat.le_of_ble_eq_true rfl⟩ dX3_giveTo_2 (fun z1 u1 bz1 h1 => ?_)
  obtain ⟨hon1, hFc1⟩ := h1
  replace hF := calR_i hF hFc1
  replace hF := hF.fc hon1.r
  have bq1 := Sp.r hon1
  refine x_if_eq C.1 (tgt := 16) dX3_giveTo_5 (by decide) (by omega) (fun hc2 => ?_) (fun hc2 => ?_)
  · replace hF := hF.to (if_pos hc2)
    exact x_vret (S := (Nat → Nat → Int)) (post := (fun u : Nat → Nat → Int => XI G u ∧ FB (fun i k : Nat => (69 ≤ i ∧ i ≤ 71) ∨ (k0 ≤ i ∧ i ≤ k0 + 18)) V u ∧ (f_s_giveTo k0 x2 x3 V J Rr) u)) (w1 := (fun u : Nat → Nat → Int => XW cy ad u J Rr)) C hr rfl dX3_giveTo_16 V rfl ⟨hI, hB, hF _ rfl⟩
  · replace hF := hF.to (if_neg hc2)
    have hon3 := Sp.on hon1 (by omega)
    refine x_aload_n C.1 dX3_giveTo_8 0 rfl ?_
    refine x_iload_n C.1 dX3_giveTo_9 3 rfl ?_
    refine x_callVi C (As := [vI x3]) (rest := []) k0 (xw_at (N := 129) (i := k0) (by omega) (xd_L hk0)) vc_X3 (s_isAlive l D cy ad G V J Rr hI hJ hR k0 hk0 x3 ⟨by omega, by omega⟩) (l1 := []) (l2 := []) (List.append_nil _).symm (w2 := fun _ => XW cy ad V J Rr) (fun _ => List.append_nil _) rfl wm_yX3_isAlive wn_X3 wl_X3_88 wi_yX3_isAlive we_yX3_isAlive hd_yX3_isAlive rfl ⟨Nat.le_of_ble_eq_true rfl, Nat.le_of_ble_eq_true rfl⟩ (Nat.le_of_ble_eq_true rfl) ⟨Nat.le_of_ble_eq_true rfl, Nat.le_of_ble_eq_true rfl⟩ dX3_giveTo_10 (fun z4 u4 bz4 h4 => ?_)
    obtain ⟨hon4, hFc4⟩ := h4
    replace hF := calR_i hF hFc4
    replace hF := hF.fc hon4.r
    have bq4 := Sp.r hon4
    refine x_if_ne C.1 (tgt := 17) dX3_giveTo_13 (by decide) (by omega) (fun hc5 => ?_) (fun hc5 => ?_)
    · replace hF := hF.to (if_pos hc5)
      have hon6 := Sp.on hon4 (by omega)
      refine x_aload_n C.1 dX3_giveTo_17 0 rfl ?_
      refine x_getA C (N := 129) (i := k0) (by omega) (xd_L hk0) vc_X3 wx_X3 0 (by decide) wf_X3_11 (a := k0 + 1) rfl dX3_giveTo_18 ?_
      refine x_iload_n C.1 dX3_giveTo_21 3 rfl ?_
      obtain ⟨c7, ec7, hc7⟩ : ∃ cx : Nat, k0 + 3 + 2 * x3.toNat = cx ∧ isPl cx := ⟨_, rfl, isPl_L hk0 (by omega)⟩
      replace hF := hF.to (rdb_e (z := c7) ec7)
      refine x_aldS C (N := 129) (i := k0 + 1) (q := x3) (t := 4) rfl (by omega) (xd_La hk0) (by omega) (by decide) dX3_giveTo_22 (a := c7) ec7 ?_
      refine x_astore C.1 (lv' := [(4, .ref (ad c7)), (0, .ref (ad k0)), (1, .ref (ad 60)), (2, vI x2), (3, vI x3)]) dX3_giveTo_23 (by decide) rfl ?_
      refine x_aload_n C.1 dX3_giveTo_25 2 rfl ?_
      refine x_aload_n C.1 dX3_giveTo_26 1 rfl ?_
      refine x_iload_n C.1 dX3_giveTo_27 3 rfl ?_
      refine x_iload_n C.1 dX3_giveTo_28 4 rfl ?_
      refine x_callVi C (As := [.ref (ad k0), vI x2, vI x3]) (rest := []) 60 (xw_at (N := 129) (i := 60) (by decide) rfl) vc_X1 (s_gift l D cy ad G V J Rr hI hJ hR k0 hk0 x2 ⟨by omega, by omega⟩ x3 ⟨by omega, by omega⟩) (l1 := []) (l2 := []) (List.append_nil _).symm (w2 := fun u : Nat → Nat → Int => XW cy ad u J Rr) (fun _ => List.append_nil _) rfl wm_yX1_gift wn_X1 wl_X3_98 wi_yX1_gift we_yX1_gift hd_yX1_gift rfl ⟨Nat.le_of_ble_eq_true rfl, Nat.le_of_ble_eq_true rfl⟩ (Nat.le_of_ble_eq_true rfl) ⟨Nat.le_of_ble_eq_true rfl, Nat.le_of_ble_eq_true rfl⟩ dX3_giveTo_29 (fun z8 V8 bz8 h8 => ?_)
      obtain ⟨hI8, bq8, hBc8, hFc8⟩ := h8
      replace hF := calVX_i hF hFc8 hBc8
      replace hF := hF.fc bq8
      have hB8 := hB.tr hBc8 (fun i k h => (Or.inl h))
      refine x_istore C.1 (lv' := [(5, vI z8), (4, .ref (ad c7)), (0, .ref (ad k0)), (1, .ref (ad 60)), (2, vI x2), (3, vI x3)]) dX3_giveTo_32 (by decide) rfl ?_
      refine x_aload_n C.1 dX3_giveTo_34 2 rfl ?_
      refine x_getA C (N := 129) (i := k0) (by omega) (xd_L hk0) vc_X3 wx_X3 1 (by decide) wf_X3_19 (a := k0 + 2) rfl dX3_giveTo_35 ?_
      refine x_iload_n C.1 dX3_giveTo_38 4 rfl ?_
      obtain ⟨c9, ec9, hc9⟩ : ∃ cx : Nat, k0 + 11 + 1 * x2.toNat = cx ∧ isPe cx := ⟨_, rfl, isPe_L hk0 (by omega)⟩
      replace hF := hF.to (rdb_e (z := c9) ec9)
      refine x_aldS C (N := 129) (i := k0 + 2) (q := x2) (t := 5) rfl (by omega) (xd_Lb hk0) (by omega) (by decide) dX3_giveTo_39 (a := c9) ec9 ?_
      refine x_dup C.1 dX3_giveTo_40 rfl ?_
      obtain ⟨z10, ez10, bz10⟩ := hI8.rd c9 3 (x := -2147483648) (y := 2147483647) (rg_E hc9 3)
      replace hF := hF.to (rdb_e (z := z10) ez10)
      refine x_getI C (N := 129) (i := c9) hc9.1 hc9.2 vc_X4 wx_X4 3 (by decide) wf_X3_52 rfl dX3_giveTo_41 (a := z10) ez10 ?_
      refine x_iload C.1 dX3_giveTo_44 0 rfl ?_
      refine x_iadd C.1 (v := z10 + z8) (by omega) dX3_giveTo_46 ?_
      refine x_wrapg ?_
      intro z11 bz11 ew11
      replace hF := hF.to (rdb_e (z := z11) ew11.symm)
      refine x_putI C (N := 129) (i := c9) hc9.1 hc9.2 vc_X4 wx_X4 3 (by decide) wf_X3_52 tyX4 tyX4_ok nmX4 rfl (tyX4_ok 3 (by decide)) rfl dX3_giveTo_47 rfl rfl ?_
      refine x_gV ?_
      intro V12 hV12
      have hI12 : XI G V12 := hI8.up hV12 (rg_E hc9 3) (by omega) (pr_E hc9 _)
      have hB12 := hB8.up hV12 (Or.inr (⟨by omega, by omega⟩))
      replace hF := hF.to (rdb_e (z := V12) hV12.symm)
      refine x_aload_n C.1 dX3_giveTo_50 2 rfl ?_
      refine x_dup C.1 dX3_giveTo_51 rfl ?_
      obtain ⟨z13, ez13, bz13⟩ := hI12.rd k0 5 (x := -2147483648) (y := 2147483647) (rg_L hk0 _)
      replace hF := hF.to (rdb_e (z := z13) ez13)
      refine x_getI C (N := 129) (i := k0) (by omega) (xd_L hk0) vc_X3 wx_X3 5 (by decide) wf_X3_69 rfl dX3_giveTo_52 (a := z13) ez13 ?_
      refine x_iload C.1 dX3_giveTo_55 0 rfl ?_
      refine x_iadd C.1 (v := z13 + z8) (by omega) dX3_giveTo_57 ?_
      refine x_wrapg ?_
      intro z14 bz14 ew14
      replace hF := hF.to (rdb_e (z := z14) ew14.symm)
      refine x_putI C (N := 129) (i := k0) (by omega) (xd_L hk0) vc_X3 wx_X3 5 (by decide) wf_X3_69 tyX3 tyX3_ok nmX3 rfl (tyX3_ok 5 (by decide)) rfl dX3_giveTo_58 rfl rfl ?_
      refine x_gV ?_
      intro V15 hV15
      have hI15 : XI G V15 := hI12.up hV15 (rg_L hk0 _) (by omega) (pr_L hk0 _)
      have hB15 := hB12.up hV15 (Or.inr (⟨Nat.le_refl _, by omega⟩))
      replace hF := hF.to (rdb_e (z := V15) hV15.symm)
      refine x_aload_n C.1 dX3_giveTo_61 2 rfl ?_
      refine x_dup C.1 dX3_giveTo_62 rfl ?_
      obtain ⟨z16, ez16, bz16⟩ := hI15.rd k0 6 (x := -2147483648) (y := 2147483647) (rg_L hk0 _)
      replace hF := hF.to (rdb_e (z := z16) ez16)
      refine x_getI C (N := 129) (i := k0) (by omega) (xd_L hk0) vc_X3 wx_X3 6 (by decide) wf_X3_70 rfl dX3_giveTo_63 (a := z16) ez16 ?_
      refine x_aload C.1 dX3_giveTo_66 1 rfl ?_
      refine x_iload C.1 dX3_giveTo_68 0 rfl ?_
      refine x_callVi C (As := [vI z8]) (rest := [vI z16, .ref (ad k0)]) c7 (xw_at (N := 129) (i := c7) (Nat.lt_of_succ_lt hc7.1) hc7.2.1) vc_X5 (s_wetBy l D cy ad G V15 J Rr hI15 hJ hR c7 hc7 z8 ⟨by omega, by omega⟩) (l1 := []) (l2 := []) (List.append_nil _).symm (w2 := fun u : Nat → Nat → Int => XW cy ad u J Rr) (fun _ => List.append_nil _) rfl wm_yX5_wetBy wn_X5 wl_X3_104 wi_yX5_wetBy we_yX5_wetBy hd_yX5_wetBy rfl ⟨Nat.le_of_ble_eq_true rfl, Nat.le_of_ble_eq_true rfl⟩ (Nat.le_of_ble_eq_true rfl) ⟨Nat.le_of_ble_eq_true rfl, Nat.le_of_ble_eq_true rfl⟩ dX3_giveTo_70 (fun z17 V17 bz17 h17 => ?_)
      obtain ⟨hI17, hBc17, hFc17⟩ := h17
      replace hF := calVX_i hF hFc17 hBc17
      have hB17 := hB15.tr hBc17 (fun i k h => (Or.inr (⟨by omega, by omega⟩)))
      refine x_iadd C.1 (v := z16 + z17) (by omega) dX3_giveTo_73 ?_
      refine x_wrapg ?_
      intro z18 bz18 ew18
      replace hF := hF.to (rdb_e (z := z18) ew18.symm)
      refine x_putI C (N := 129) (i := k0) (by omega) (xd_L hk0) vc_X3 wx_X3 6 (by decide) wf_X3_70 tyX3 tyX3_ok nmX3 rfl (tyX3_ok 6 (by decide)) rfl dX3_giveTo_74 rfl rfl ?_
      refine x_gV ?_
      intro V19 hV19
      have hI19 : XI G V19 := hI17.up hV19 (rg_L hk0 _) (by omega) (pr_L hk0 _)
      have hB19 := hB17.up hV19 (Or.inr (⟨Nat.le_refl _, by omega⟩))
      replace hF := hF.to (rdb_e (z := V19) hV19.symm)
      refine x_iload C.1 dX3_giveTo_77 0 rfl ?_
      refine x_if_le C.1 (tgt := 99) dX3_giveTo_79 (by decide) (by omega) (fun hc20 => ?_) (fun hc20 => ?_)
      · replace hF := hF.to (if_pos hc20)
        exact x_vret (S := (Nat → Nat → Int)) (post := (fun u : Nat → Nat → Int => XI G u ∧ FB (fun i k : Nat => (69 ≤ i ∧ i ≤ 71) ∨ (k0 ≤ i ∧ i ≤ k0 + 18)) V u ∧ (f_s_giveTo k0 x2 x3 V J Rr) u)) (w1 := (fun u : Nat → Nat → Int => XW cy ad u J Rr)) C hr rfl dX3_giveTo_99 V19 rfl ⟨hI19, hB19, hF _ rfl⟩
      · replace hF := hF.to (if_neg hc20)
        refine x_aload C.1 dX3_giveTo_82 1 rfl ?_
        obtain ⟨z21, ez21, bz21⟩ := hI19.rd c7 6 (x := 0) (y := 1) (rg_P hc7 6)
        replace hF := hF.to (rdb_e (z := z21) ez21)
        replace hF := hF.fc bz21
        refine x_getI C (N := 129) (i := c7) (Nat.lt_of_succ_lt hc7.1) hc7.2.1 vc_X5 wx_X5 6 (by decide) wf_X3_108 rfl dX3_giveTo_84 (a := z21) ez21 ?_
        refine x_if_eq C.1 (tgt := 99) dX3_giveTo_87 (by decide) (by omega) (fun hc22 => ?_) (fun hc22 => ?_)
        · replace hF := hF.to (if_pos hc22)
          exact x_vret (S := (Nat → Nat → Int)) (post := (fun u : Nat → Nat → Int => XI G u ∧ FB (fun i k : Nat => (69 ≤ i ∧ i ≤ 71) ∨ (k0 ≤ i ∧ i ≤ k0 + 18)) V u ∧ (f_s_giveTo k0 x2 x3 V J Rr) u)) (w1 := (fun u : Nat → Nat → Int => XW cy ad u J Rr)) C hr rfl dX3_giveTo_99 V19 rfl ⟨hI19, hB19, hF _ rfl⟩
        · replace hF := hF.to (if_neg hc22)
          refine x_aload C.1 dX3_giveTo_90 1 rfl ?_
          refine x_aload_n C.1 dX3_giveTo_92 2 rfl ?_
          obtain ⟨z23, ez23, bz23⟩ := hI19.rd k0 3 (x := -2147483648) (y := 2147483647) (rg_L hk0 _)
          replace hF := hF.to (rdb_e (z := z23) ez23)
          refine x_getI C (N := 129) (i := k0) (by omega) (xd_L hk0) vc_X3 wx_X3 3 (by decide) wf_X3_39 rfl dX3_giveTo_93 (a := z23) ez23 ?_
          refine x_putI C (N := 129) (i := c7) (Nat.lt_of_succ_lt hc7.1) hc7.2.1 vc_X5 wx_X5 7 (by decide) wf_X3_111 tyX5 tyX5_ok nmX5 rfl (tyX5_ok 7 (by decide)) rfl dX3_giveTo_96 rfl rfl ?_
          refine x_gV ?_
          intro V24 hV24
          have hI24 : XI G V24 := hI19.up hV24 (rg_P hc7 7) (by omega) (pr_P hc7 rfl rfl)
          have hB24 := hB19.up hV24 (Or.inr (⟨by omega, by omega⟩))
          replace hF := hF.to (rdb_e (z := V24) hV24.symm)
          exact x_vret (S := (Nat → Nat → Int)) (post := (fun u : Nat → Nat → Int => XI G u ∧ FB (fun i k : Nat => (69 ≤ i ∧ i ≤ 71) ∨ (k0 ≤ i ∧ i ≤ k0 + 18)) V u ∧ (f_s_giveTo k0 x2 x3 V J Rr) u)) (w1 := (fun u : Nat → Nat → Int => XW cy ad u J Rr)) C hr rfl dX3_giveTo_99 V24 rfl ⟨hI24, hB24, hF _ rfl⟩
    · replace hF := hF.to (if_neg (fun hh => hh hc5))
      exact x_vret (S := (Nat → Nat → Int)) (post := (fun u : Nat → Nat → Int => XI G u ∧ FB (fun i k : Nat => (69 ≤ i ∧ i ≤ 71) ∨ (k0 ≤ i ∧ i ≤ k0 + 18)) V u ∧ (f_s_giveTo k0 x2 x3 V J Rr) u)) (w1 := (fun u : Nat → Nat → Int => XW cy ad u J Rr)) C hr rfl dX3_giveTo_16 V rfl ⟨hI, hB, hF _ rfl⟩
theorem hd_yX1_goes : yX1_goes.cls ≠ "java/lang/invoke/MethodHandle" ∧ yX1_goes.cls ≠ "java/lang/invoke/VarHandle" ∧ (parseMethodDescriptor yX1_goes.desc).map (fun d => d.parameters.length) = some 3 := by decide +kernel
theorem hd_yX5_dryBy : yX5_dryBy.cls ≠ "java/lang/invoke/MethodHandle" ∧ yX5_dryBy.cls ≠ "java/lang/invoke/VarHandle" ∧ (parseMethodDescriptor yX5_dryBy.desc).map (fun d => d.parameters.length) = some 1 := by decide +kernel
theorem dX3_endDay_0 : decode cX3_endDay 0 = .ok (.aload_n 1, 1) := by decide +kernel
theorem dX3_endDay_1 : decode cX3_endDay 1 = .ok (.aload_n 0, 1) := by decide +kernel
theorem dX3_endDay_2 : decode cX3_endDay 2 = .ok (.iload_n 2, 1) := by decide +kernel
theorem dX3_endDay_3 : decode cX3_endDay 3 = .ok (.bipush 101, 2) := by decide +kernel
theorem dX3_endDay_5 : decode cX3_endDay 5 = .ok (.invokevirtual 114, 3) := by decide +kernel
theorem dX3_endDay_8 : decode cX3_endDay 8 = .ok (.istore 4, 2) := by decide +kernel
theorem dX3_endDay_10 : decode cX3_endDay 10 = .ok (.iload_n 3, 1) := by decide +kernel
theorem dX3_endDay_11 : decode cX3_endDay 11 = .ok (.ifCond .eq 16, 3) := by decide +kernel
theorem dX3_endDay_14 : decode cX3_endDay 14 = .ok (.iload 4, 2) := by decide +kernel
theorem dX3_endDay_16 : decode cX3_endDay 16 = .ok (.aload_n 1, 1) := by decide +kernel
theorem dX3_endDay_17 : decode cX3_endDay 17 = .ok (.aload_n 0, 1) := by decide +kernel
theorem dX3_endDay_18 : decode cX3_endDay 18 = .ok (.iload_n 2, 1) := by decide +kernel
theorem dX3_endDay_19 : decode cX3_endDay 19 = .ok (.bipush 104, 2) := by decide +kernel
theorem dX3_endDay_21 : decode cX3_endDay 21 = .ok (.invokevirtual 114, 3) := by decide +kernel
theorem dX3_endDay_24 : decode cX3_endDay 24 = .ok (.iadd, 1) := by decide +kernel
theorem dX3_endDay_25 : decode cX3_endDay 25 = .ok (.istore 4, 2) := by decide +kernel
theorem dX3_endDay_27 : decode cX3_endDay 27 = .ok (.aload_n 0, 1) := by decide +kernel
theorem dX3_endDay_28 : decode cX3_endDay 28 = .ok (.getfield 11, 3) := by decide +kernel
theorem dX3_endDay_31 : decode cX3_endDay 31 = .ok (.iload_n 2, 1) := by decide +kernel
theorem dX3_endDay_32 : decode cX3_endDay 32 = .ok (.aaload, 1) := by decide +kernel
theorem dX3_endDay_33 : decode cX3_endDay 33 = .ok (.iload 4, 2) := by decide +kernel
theorem dX3_endDay_35 : decode cX3_endDay 35 = .ok (.invokevirtual 118, 3) := by decide +kernel
theorem dX3_endDay_38 : decode cX3_endDay 38 = .ok (.return_, 1) := by decide +kernel
set_option maxRecDepth 100000 in
def f_s_endDay (k0 : Nat) (x2 : Int) (x3 : Int) (V : Nat → Nat → Int) (J : Nat → Nat → Int) (Rr : Nat → Nat → Nat) : (Nat → Nat → Int) → Prop :=
  calVX (fun i k : Nat => (69 ≤ i ∧ i ≤ 71)) V (f_s_goes k0 x2 101 V J Rr) fun z1 V1 => fct (0 ≤ z1 ∧ z1 ≤ 999) <| jnk (fun (z3 : Int) (V4 : Nat → Nat → Int) => rdb (k0 + 3 + 2 * x2.toNat) fun c5 => calUX (fun i k : Nat => (c5 ≤ i ∧ i ≤ c5 + 1)) V4 (f_s_dryBy c5 z3 V4 J Rr) fun V6 => rtn V6) fun jf4 => (if x3 = 0 then jf4 z1 V1 else calVX (fun i k : Nat => (69 ≤ i ∧ i ≤ 71)) V1 (f_s_goes k0 x2 104 V1 J Rr) fun z8 V8 => fct (0 ≤ z8 ∧ z8 ≤ 999) <| jf4 (z1 + z8) V8)
set_option maxHeartbeats 8000000 in
set_option maxRecDepth 100000 in
theorem s_endDay (l : Launch) (D : va_G) (cy : Nat → ClassId) (ad : Nat → Nat) (G : Nat → Nat → Int) (V J : Nat → Nat → Int) (Rr : Nat → Nat → Nat) (hI : XI G V) (hJ : VJ J) (hR : XR Rr) (k0 : Nat) (hk0 : isLa k0) (x2 : Int) (bx2 : 0 ≤ x2 ∧ x2 ≤ 3) (x3 : Int) (bx3 : 0 ≤ x3 ∧ x3 ≤ 1) : xMv l D (xTY cy) yX3_endDay cX3_endDay 5 none 4 99 0 0 [.ref (ad k0), .ref (ad 60), vI x2, vI x3] (XW cy ad V J Rr) (fun u : Nat → Nat → Int => XW cy ad u J Rr) (fun u : Nat → Nat → Int => XI G u ∧ FB (fun i k : Nat => (69 ≤ i ∧ i ≤ 71) ∨ (k0 ≤ i ∧ i ≤ k0 + 18)) V u ∧ (f_s_endDay k0 x2 x3 V J Rr) u) := by
  refine xMv.mk (lv0 := [(0, .ref (ad k0)), (1, .ref (ad 60)), (2, vI x2), (3, vI x3)]) (by decide) rfl (Nat.le_of_ble_eq_true rfl) (fun p e s m below meth c A C hr hnm hAe => ?_)
  have C : xC2 p s m _ meth c D A s.heap 5 cX3_endDay RX3 (xTY cy) := C
  have hB : FB (fun i k : Nat => (69 ≤ i ∧ i ≤ 71) ∨ (k0 ≤ i ∧ i ≤ k0 + 18)) V V := FB.rf _ _
  have hF := Imp.of_eq (f_s_endDay.eq_def k0 x2 x3 V J Rr)
  refine x_aload_n C.1 dX3_endDay_0 1 rfl ?_
  refine x_aload_n C.1 dX3_endDay_1 0 rfl ?_
  refine x_iload_n C.1 dX3_endDay_2 2 rfl ?_
  refine x_bipush C.1 (n := 101) dX3_endDay_3 ?_
  refine x_callVi C (As := [.ref (ad k0), vI x2, vI 101]) (rest := []) 60 (xw_at (N := 129) (i := 60) (by decide) rfl) vc_X1 (s_goes l D cy ad G V J Rr hI hJ hR k0 hk0 x2 ⟨by omega, by omega⟩ 101 ⟨by decide, by decide⟩) (l1 := []) (l2 := []) (List.append_nil _).symm (w2 := fun u : Nat → Nat → Int => XW cy ad u J Rr) (fun _ => List.append_nil _) rfl wm_yX1_goes wn_X1 wl_X3_114 wi_yX1_goes we_yX1_goes hd_yX1_goes rfl ⟨Nat.le_of_ble_eq_true rfl, Nat.le_of_ble_eq_true rfl⟩ (Nat.le_of_ble_eq_true rfl) ⟨Nat.le_of_ble_eq_true rfl, Nat.le_of_ble_eq_true rfl⟩ dX3_endDay_5 (fun z1 V1 bz1 h1 => ?_)
  obtain ⟨hI1, bq1, hBc1, hFc1⟩ := h1
  replace hF := calVX_i hF hFc1 hBc1
  replace hF := hF.fc bq1
  have hB1 := hB.tr hBc1 (fun i k h => (Or.inl h))
  refine x_istore C.1 (lv' := [(4, vI z1), (0, .ref (ad k0)), (1, .ref (ad 60)), (2, vI x2), (3, vI x3)]) dX3_endDay_8 (by decide) rfl ?_
  refine x_iload_n C.1 dX3_endDay_10 4 rfl ?_
  obtain ⟨jf4, hjf4, hF⟩ := jn_ex hF
  refine x_join (I := fun x : Int × (Nat → Nat → Int) => match x with | (z3, V4) => (0 ≤ z3 ∧ z3 ≤ 1998) ∧ XI G V4 ∧ FB (fun i k : Nat => (69 ≤ i ∧ i ≤ 71) ∨ (k0 ≤ i ∧ i ≤ k0 + 18)) V V4 ∧ Imp (jf4 z3 V4) (f_s_endDay k0 x2 x3 V J Rr)) (wsf := fun x : Int × (Nat → Nat → Int) => match x with | (z3, V4) => XW cy ad V4 J Rr) (lvf := fun x : Int × (Nat → Nat → Int) => match x with | (z3, V4) => [(4, vI z3), (0, .ref (ad k0)), (1, .ref (ad 60)), (2, vI x2), (3, vI x3)]) (stf := fun x : Int × (Nat → Nat → Int) => match x with | (z3, V4) => []) 27 (fun x hI4x => ?_) (fun jn4 => ?_)
  · obtain ⟨z3, V4⟩ := x
    obtain ⟨bz3, hI4, hB4, hF⟩ := hI4x
    try dsimp only
    replace hF := hF.to (jn_s2 hjf4)
    refine x_aload_n C.1 dX3_endDay_27 1 rfl ?_
    refine x_getA C (N := 129) (i := k0) (by omega) (xd_L hk0) vc_X3 wx_X3 0 (by decide) wf_X3_11 (a := k0 + 1) rfl dX3_endDay_28 ?_
    refine x_iload_n C.1 dX3_endDay_31 3 rfl ?_
    obtain ⟨c5, ec5, hc5⟩ : ∃ cx : Nat, k0 + 3 + 2 * x2.toNat = cx ∧ isPl cx := ⟨_, rfl, isPl_L hk0 (by omega)⟩
    replace hF := hF.to (rdb_e (z := c5) ec5)
    refine x_aldS C (N := 129) (i := k0 + 1) (q := x2) (t := 4) rfl (by omega) (xd_La hk0) (by omega) (by decide) dX3_endDay_32 (a := c5) ec5 ?_
    refine x_iload C.1 dX3_endDay_33 0 rfl ?_
    refine x_callVv C (As := [vI z3]) (rest := []) c5 (xw_at (N := 129) (i := c5) (Nat.lt_of_succ_lt hc5.1) hc5.2.1) vc_X5 (s_dryBy l D cy ad G V4 J Rr hI4 hJ hR c5 hc5 z3 ⟨by omega, by omega⟩) (l1 := []) (l2 := []) (List.append_nil _).symm (w2 := fun u : Nat → Nat → Int => XW cy ad u J Rr) (fun _ => List.append_nil _) rfl wm_yX5_dryBy wn_X5 wl_X3_118 wi_yX5_dryBy we_yX5_dryBy hd_yX5_dryBy rfl ⟨Nat.le_of_ble_eq_true rfl, Nat.le_of_ble_eq_true rfl⟩ (Nat.le_of_ble_eq_true rfl) ⟨Nat.le_of_ble_eq_true rfl, Nat.le_of_ble_eq_true rfl⟩ dX3_endDay_35 (fun V6 h6 => ?_)
    obtain ⟨hI6, hBc6, hFc6⟩ := h6
    replace hF := calUX_i hF hFc6 hBc6
    have hB6 := hB4.tr hBc6 (fun i k h => (Or.inr (⟨by omega, by omega⟩)))
    exact x_vret (S := (Nat → Nat → Int)) (post := (fun u : Nat → Nat → Int => XI G u ∧ FB (fun i k : Nat => (69 ≤ i ∧ i ≤ 71) ∨ (k0 ≤ i ∧ i ≤ k0 + 18)) V u ∧ (f_s_endDay k0 x2 x3 V J Rr) u)) (w1 := (fun u : Nat → Nat → Int => XW cy ad u J Rr)) C hr rfl dX3_endDay_38 V6 rfl ⟨hI6, hB6, hF _ rfl⟩
  · refine x_if_eq C.1 (tgt := 27) dX3_endDay_11 (by decide) (by omega) (fun hc7 => ?_) (fun hc7 => ?_)
    · replace hF := hF.to (if_pos hc7)
      exact jn4 (z1, V1) ⟨⟨by omega, by omega⟩, hI1, hB1, hF⟩
    · replace hF := hF.to (if_neg hc7)
      refine x_iload C.1 dX3_endDay_14 0 rfl ?_
      refine x_aload_n C.1 dX3_endDay_16 2 rfl ?_
      refine x_aload_n C.1 dX3_endDay_17 1 rfl ?_
      refine x_iload_n C.1 dX3_endDay_18 3 rfl ?_
      refine x_bipush C.1 (n := 104) dX3_endDay_19 ?_
      refine x_callVi C (As := [.ref (ad k0), vI x2, vI 104]) (rest := [vI z1]) 60 (xw_at (N := 129) (i := 60) (by decide) rfl) vc_X1 (s_goes l D cy ad G V1 J Rr hI1 hJ hR k0 hk0 x2 ⟨by omega, by omega⟩ 104 ⟨by decide, by decide⟩) (l1 := []) (l2 := []) (List.append_nil _).symm (w2 := fun u : Nat → Nat → Int => XW cy ad u J Rr) (fun _ => List.append_nil _) rfl wm_yX1_goes wn_X1 wl_X3_114 wi_yX1_goes we_yX1_goes hd_yX1_goes rfl ⟨Nat.le_of_ble_eq_true rfl, Nat.le_of_ble_eq_true rfl⟩ (Nat.le_of_ble_eq_true rfl) ⟨Nat.le_of_ble_eq_true rfl, Nat.le_of_ble_eq_true rfl⟩ dX3_endDay_21 (fun z8 V8 bz8 h8 => ?_)
      obtain ⟨hI8, bq8, hBc8, hFc8⟩ := h8
      replace hF := calVX_i hF hFc8 hBc8
      replace hF := hF.fc bq8
      have hB8 := hB1.tr hBc8 (fun i k h => (Or.inl h))
      refine x_iadd C.1 (v := z1 + z8) (by omega) dX3_endDay_24 ?_
      refine x_istore C.1 (lv' := [(4, vI (z1 + z8)), (0, .ref (ad k0)), (1, .ref (ad 60)), (2, vI x2), (3, vI x3)]) dX3_endDay_25 (by decide) rfl ?_
      exact jn4 (z1 + z8, V8) ⟨⟨by omega, by omega⟩, hI8, hB8, hF⟩
theorem hd_yX3_draw : yX3_draw.cls ≠ "java/lang/invoke/MethodHandle" ∧ yX3_draw.cls ≠ "java/lang/invoke/VarHandle" ∧ (parseMethodDescriptor yX3_draw.desc).map (fun d => d.parameters.length) = some 0 := by decide +kernel
theorem hd_yX3_endDay : yX3_endDay.cls ≠ "java/lang/invoke/MethodHandle" ∧ yX3_endDay.cls ≠ "java/lang/invoke/VarHandle" ∧ (parseMethodDescriptor yX3_endDay.desc).map (fun d => d.parameters.length) = some 3 := by decide +kernel
theorem hd_yX3_giveTo : yX3_giveTo.cls ≠ "java/lang/invoke/MethodHandle" ∧ yX3_giveTo.cls ≠ "java/lang/invoke/VarHandle" ∧ (parseMethodDescriptor yX3_giveTo.desc).map (fun d => d.parameters.length) = some 3 := by decide +kernel
theorem dX3_oneDay_0 : decode cX3_oneDay 0 = .ok (.iconst 0, 1) := by decide +kernel
theorem dX3_oneDay_1 : decode cX3_oneDay 1 = .ok (.istore_n 2, 1) := by decide +kernel
theorem dX3_oneDay_2 : decode cX3_oneDay 2 = .ok (.iload_n 2, 1) := by decide +kernel
theorem dX3_oneDay_3 : decode cX3_oneDay 3 = .ok (.bipush 8, 2) := by decide +kernel
theorem dX3_oneDay_5 : decode cX3_oneDay 5 = .ok (.if_icmp .ge 57, 3) := by decide +kernel
theorem dX3_oneDay_8 : decode cX3_oneDay 8 = .ok (.aload_n 0, 1) := by decide +kernel
theorem dX3_oneDay_9 : decode cX3_oneDay 9 = .ok (.getfield 19, 3) := by decide +kernel
theorem dX3_oneDay_12 : decode cX3_oneDay 12 = .ok (.iload_n 2, 1) := by decide +kernel
theorem dX3_oneDay_13 : decode cX3_oneDay 13 = .ok (.aaload, 1) := by decide +kernel
theorem dX3_oneDay_14 : decode cX3_oneDay 14 = .ok (.getfield 42, 3) := by decide +kernel
theorem dX3_oneDay_17 : decode cX3_oneDay 17 = .ok (.ifCond .eq 39, 3) := by decide +kernel
theorem dX3_oneDay_20 : decode cX3_oneDay 20 = .ok (.aload_n 0, 1) := by decide +kernel
theorem dX3_oneDay_21 : decode cX3_oneDay 21 = .ok (.invokevirtual 80, 3) := by decide +kernel
theorem dX3_oneDay_24 : decode cX3_oneDay 24 = .ok (.aload_n 0, 1) := by decide +kernel
theorem dX3_oneDay_25 : decode cX3_oneDay 25 = .ok (.getfield 19, 3) := by decide +kernel
theorem dX3_oneDay_28 : decode cX3_oneDay 28 = .ok (.iload_n 2, 1) := by decide +kernel
theorem dX3_oneDay_29 : decode cX3_oneDay 29 = .ok (.aaload, 1) := by decide +kernel
theorem dX3_oneDay_30 : decode cX3_oneDay 30 = .ok (.getfield 46, 3) := by decide +kernel
theorem dX3_oneDay_33 : decode cX3_oneDay 33 = .ok (.if_icmp .ge 23, 3) := by decide +kernel
theorem dX3_oneDay_36 : decode cX3_oneDay 36 = .ok (.iconst 0, 1) := by decide +kernel
theorem dX3_oneDay_37 : decode cX3_oneDay 37 = .ok (.istore_n 3, 1) := by decide +kernel
theorem dX3_oneDay_38 : decode cX3_oneDay 38 = .ok (.iload_n 3, 1) := by decide +kernel
theorem dX3_oneDay_39 : decode cX3_oneDay 39 = .ok (.iconst 4, 1) := by decide +kernel
theorem dX3_oneDay_40 : decode cX3_oneDay 40 = .ok (.if_icmp .ge 16, 3) := by decide +kernel
theorem dX3_oneDay_43 : decode cX3_oneDay 43 = .ok (.aload_n 0, 1) := by decide +kernel
theorem dX3_oneDay_44 : decode cX3_oneDay 44 = .ok (.aload_n 1, 1) := by decide +kernel
theorem dX3_oneDay_45 : decode cX3_oneDay 45 = .ok (.iload_n 2, 1) := by decide +kernel
theorem dX3_oneDay_46 : decode cX3_oneDay 46 = .ok (.iload_n 3, 1) := by decide +kernel
theorem dX3_oneDay_47 : decode cX3_oneDay 47 = .ok (.invokevirtual 84, 3) := by decide +kernel
theorem dX3_oneDay_50 : decode cX3_oneDay 50 = .ok (.iinc 3 1, 3) := by decide +kernel
theorem dX3_oneDay_53 : decode cX3_oneDay 53 = .ok (.goto (-15), 3) := by decide +kernel
theorem dX3_oneDay_56 : decode cX3_oneDay 56 = .ok (.iinc 2 1, 3) := by decide +kernel
theorem dX3_oneDay_59 : decode cX3_oneDay 59 = .ok (.goto (-57), 3) := by decide +kernel
theorem dX3_oneDay_62 : decode cX3_oneDay 62 = .ok (.iconst 0, 1) := by decide +kernel
theorem dX3_oneDay_63 : decode cX3_oneDay 63 = .ok (.istore_n 2, 1) := by decide +kernel
theorem dX3_oneDay_64 : decode cX3_oneDay 64 = .ok (.iload_n 2, 1) := by decide +kernel
theorem dX3_oneDay_65 : decode cX3_oneDay 65 = .ok (.iconst 4, 1) := by decide +kernel
theorem dX3_oneDay_66 : decode cX3_oneDay 66 = .ok (.if_icmp .ge 56, 3) := by decide +kernel
theorem dX3_oneDay_69 : decode cX3_oneDay 69 = .ok (.aload_n 0, 1) := by decide +kernel
theorem dX3_oneDay_70 : decode cX3_oneDay 70 = .ok (.iload_n 2, 1) := by decide +kernel
theorem dX3_oneDay_71 : decode cX3_oneDay 71 = .ok (.invokevirtual 88, 3) := by decide +kernel
theorem dX3_oneDay_74 : decode cX3_oneDay 74 = .ok (.ifCond .eq 42, 3) := by decide +kernel
theorem dX3_oneDay_77 : decode cX3_oneDay 77 = .ok (.aload_n 0, 1) := by decide +kernel
theorem dX3_oneDay_78 : decode cX3_oneDay 78 = .ok (.invokevirtual 80, 3) := by decide +kernel
theorem dX3_oneDay_81 : decode cX3_oneDay 81 = .ok (.iconst 5, 1) := by decide +kernel
theorem dX3_oneDay_82 : decode cX3_oneDay 82 = .ok (.if_icmp .ge 7, 3) := by decide +kernel
theorem dX3_oneDay_85 : decode cX3_oneDay 85 = .ok (.iconst 1, 1) := by decide +kernel
theorem dX3_oneDay_86 : decode cX3_oneDay 86 = .ok (.goto 4, 3) := by decide +kernel
theorem dX3_oneDay_89 : decode cX3_oneDay 89 = .ok (.iconst 0, 1) := by decide +kernel
theorem dX3_oneDay_90 : decode cX3_oneDay 90 = .ok (.istore_n 3, 1) := by decide +kernel
theorem dX3_oneDay_91 : decode cX3_oneDay 91 = .ok (.aload_n 0, 1) := by decide +kernel
theorem dX3_oneDay_92 : decode cX3_oneDay 92 = .ok (.dup, 1) := by decide +kernel
theorem dX3_oneDay_93 : decode cX3_oneDay 93 = .ok (.getfield 73, 3) := by decide +kernel
theorem dX3_oneDay_96 : decode cX3_oneDay 96 = .ok (.iload_n 3, 1) := by decide +kernel
theorem dX3_oneDay_97 : decode cX3_oneDay 97 = .ok (.ifCond .eq 7, 3) := by decide +kernel
theorem dX3_oneDay_100 : decode cX3_oneDay 100 = .ok (.iconst 1, 1) := by decide +kernel
theorem dX3_oneDay_101 : decode cX3_oneDay 101 = .ok (.goto 4, 3) := by decide +kernel
theorem dX3_oneDay_104 : decode cX3_oneDay 104 = .ok (.iconst 0, 1) := by decide +kernel
theorem dX3_oneDay_105 : decode cX3_oneDay 105 = .ok (.iadd, 1) := by decide +kernel
theorem dX3_oneDay_106 : decode cX3_oneDay 106 = .ok (.putfield 73, 3) := by decide +kernel
theorem dX3_oneDay_109 : decode cX3_oneDay 109 = .ok (.aload_n 0, 1) := by decide +kernel
theorem dX3_oneDay_110 : decode cX3_oneDay 110 = .ok (.aload_n 1, 1) := by decide +kernel
theorem dX3_oneDay_111 : decode cX3_oneDay 111 = .ok (.iload_n 2, 1) := by decide +kernel
theorem dX3_oneDay_112 : decode cX3_oneDay 112 = .ok (.iload_n 3, 1) := by decide +kernel
theorem dX3_oneDay_113 : decode cX3_oneDay 113 = .ok (.invokevirtual 91, 3) := by decide +kernel
theorem dX3_oneDay_116 : decode cX3_oneDay 116 = .ok (.iinc 2 1, 3) := by decide +kernel
theorem dX3_oneDay_119 : decode cX3_oneDay 119 = .ok (.goto (-55), 3) := by decide +kernel
theorem dX3_oneDay_122 : decode cX3_oneDay 122 = .ok (.aload_n 0, 1) := by decide +kernel
theorem dX3_oneDay_123 : decode cX3_oneDay 123 = .ok (.dup, 1) := by decide +kernel
theorem dX3_oneDay_124 : decode cX3_oneDay 124 = .ok (.getfield 39, 3) := by decide +kernel
theorem dX3_oneDay_127 : decode cX3_oneDay 127 = .ok (.iconst 1, 1) := by decide +kernel
theorem dX3_oneDay_128 : decode cX3_oneDay 128 = .ok (.iadd, 1) := by decide +kernel
theorem dX3_oneDay_129 : decode cX3_oneDay 129 = .ok (.putfield 39, 3) := by decide +kernel
theorem dX3_oneDay_132 : decode cX3_oneDay 132 = .ok (.return_, 1) := by decide +kernel
set_option maxRecDepth 100000 in
def f_s_oneDay (k0 : Nat) (V : Nat → Nat → Int) (J : Nat → Nat → Int) (Rr : Nat → Nat → Nat) : (Nat → Nat → Int) → Prop :=
  lop2 (10) (fun rc1084 (z1083 : Int) (V1084 : Nat → Nat → Int) => (if 8 ≤ z1083 then lop2 (6) (fun rc1808 (z1807 : Int) (V1808 : Nat → Nat → Int) => (if 4 ≤ z1807 then rdb (V1808 k0 3) fun z1895 => rdb (wr (z1895 + 1)) fun z1896 => rdb (up2 V1808 k0 3 z1896) fun V1897 => rtn V1897 else calR (f_s_isAlive k0 z1807 V1808 J Rr) fun z1898 => fct (0 ≤ z1898 ∧ z1898 ≤ 1) <| jnk (fun (V1911 : Nat → Nat → Int) => rc1808 (z1807 + 1) V1911) fun jf1911 => (if z1898 = 0 then jf1911 V1808 else calVX (fun i k : Nat => (k0 ≤ i ∧ i ≤ k0 + 18)) V1808 (f_s_draw k0 V1808 J Rr) fun z1914 V1914 => jnk (fun (z1915 : Int) => rdb (V1914 k0 7) fun z1917 => jnk (fun (z1918 : Int) => rdb (wr (z1917 + z1918)) fun z1920 => rdb (up2 V1914 k0 7 z1920) fun V1921 => calUX (fun i k : Nat => (69 ≤ i ∧ i ≤ 71) ∨ (k0 ≤ i ∧ i ≤ k0 + 18)) V1921 (f_s_endDay k0 z1807 z1915 V1921 J Rr) fun V1922 => jf1911 V1922) fun jf1919 => (if z1915 = 0 then jf1919 0 else jf1919 1)) fun jf1916 => (if 5 ≤ z1914 then jf1916 0 else jf1916 1)))) 0 V1084 else rdb (k0 + 11 + 1 * z1083.toNat) fun c1925 => rdb (V1084 c1925 0) fun z1926 => fct (0 ≤ z1926 ∧ z1926 ≤ 1) <| jnk (fun (V1949 : Nat → Nat → Int) => rc1084 (z1083 + 1) V1949) fun jf1949 => (if z1926 = 0 then jf1949 V1084 else calVX (fun i k : Nat => (k0 ≤ i ∧ i ≤ k0 + 18)) V1084 (f_s_draw k0 V1084 J Rr) fun z1951 V1951 => rdb (V1951 c1925 1) fun z1952 => (if z1952 ≤ z1951 then jf1949 V1951 else lop2 (6) (fun rc1968 (z1967 : Int) (V1968 : Nat → Nat → Int) => (if 4 ≤ z1967 then jf1949 V1968 else calUX (fun i k : Nat => (69 ≤ i ∧ i ≤ 71) ∨ (k0 ≤ i ∧ i ≤ k0 + 18)) V1968 (f_s_giveTo k0 z1083 z1967 V1968 J Rr) fun V1972 => rc1968 (z1967 + 1) V1972)) 0 V1951)))) 0 V
set_option maxHeartbeats 8000000 in
set_option maxRecDepth 100000 in
theorem s_oneDay (l : Launch) (D : va_G) (cy : Nat → ClassId) (ad : Nat → Nat) (G : Nat → Nat → Int) (V J : Nat → Nat → Int) (Rr : Nat → Nat → Nat) (hI : XI G V) (hJ : VJ J) (hR : XR Rr) (k0 : Nat) (hk0 : isLa k0) : xMv l D (xTY cy) yX3_oneDay cX3_oneDay 4 none 5 125 0 0 [.ref (ad k0), .ref (ad 60)] (XW cy ad V J Rr) (fun u : Nat → Nat → Int => XW cy ad u J Rr) (fun u : Nat → Nat → Int => XI G u ∧ FB (fun i k : Nat => (k0 ≤ i ∧ i ≤ k0 + 18) ∨ (69 ≤ i ∧ i ≤ 71)) V u ∧ (f_s_oneDay k0 V J Rr) u) := by
  refine xMv.mk (lv0 := [(0, .ref (ad k0)), (1, .ref (ad 60))]) (by decide) rfl (Nat.le_of_ble_eq_true rfl) (fun p e s m below meth c A C hr hnm hAe => ?_)
  have C : xC2 p s m _ meth c D A s.heap 4 cX3_oneDay RX3 (xTY cy) := C
  have hB : FB (fun i k : Nat => (k0 ≤ i ∧ i ≤ k0 + 18) ∨ (69 ≤ i ∧ i ≤ 71)) V V := FB.rf _ _
  have hF := Imp.of_eq (f_s_oneDay.eq_def k0 V J Rr)
  refine x_iconst C.1 (n := 0) dX3_oneDay_0 ?_
  refine x_istore_n C.1 (lv' := [(2, vI 0), (0, .ref (ad k0)), (1, .ref (ad 60))]) dX3_oneDay_1 (by decide) rfl ?_
  obtain ⟨bd1084, hbd1084, hF⟩ := lop2_ex hF
  refine x_loop (I := fun x : Int × (Nat → Nat → Int) => match x with | (z1083, V1084) => (0 ≤ z1083 ∧ z1083 ≤ 8) ∧ XI G V1084 ∧ FB (fun i k : Nat => (k0 ≤ i ∧ i ≤ k0 + 18) ∨ (69 ≤ i ∧ i ≤ 71)) V V1084 ∧ (∃ nf : Nat, (9 - z1083).toNat < nf ∧ Imp (lop2 nf bd1084 z1083 V1084) (f_s_oneDay k0 V J Rr))) (μ := fun x : Int × (Nat → Nat → Int) => match x with | (z1083, V1084) => (9 - z1083).toNat) (wsf := fun x : Int × (Nat → Nat → Int) => match x with | (z1083, V1084) => XW cy ad V1084 J Rr) (lvf := fun x : Int × (Nat → Nat → Int) => match x with | (z1083, V1084) => [(2, vI z1083), (0, .ref (ad k0)), (1, .ref (ad 60))]) (fun x hI1084x ih1084 => ?_) (0, V) ⟨⟨by decide, by decide⟩, hI, hB, ⟨_, (by omega), hF⟩⟩ rfl rfl
  obtain ⟨z1083, V1084⟩ := x
  obtain ⟨bz1083, hI1084, hB1084, nf1084, hn1084, hF⟩ := hI1084x
  try dsimp only
  obtain ⟨nf1084, rfl⟩ : ∃ mm, nf1084 = mm + 1 := ⟨nf1084 - 1, (Nat.succ_pred_eq_of_pos (Nat.lt_of_le_of_lt (Nat.zero_le _) hn1084)).symm⟩
  replace hF := hF.to (lop2_s hbd1084)
  refine x_iload_n C.1 dX3_oneDay_2 0 rfl ?_
  refine x_bipush C.1 (n := 8) dX3_oneDay_3 ?_
  refine x_icmp_ge C.1 (tgt := 62) dX3_oneDay_5 (by decide) (by omega) (by decide) (fun hc1577 => ?_) (fun hc1577 => ?_)
  · replace hF := hF.to (if_pos hc1577)
    refine x_iconst C.1 (n := 0) dX3_oneDay_62 ?_
    refine x_istore_n C.1 (lv' := [(2, vI 0), (0, .ref (ad k0)), (1, .ref (ad 60))]) dX3_oneDay_63 (by decide) rfl ?_
    obtain ⟨bd1808, hbd1808, hF⟩ := lop2_ex hF
    refine x_loop (I := fun x : Int × (Nat → Nat → Int) => match x with | (z1807, V1808) => (0 ≤ z1807 ∧ z1807 ≤ 4) ∧ XI G V1808 ∧ FB (fun i k : Nat => (k0 ≤ i ∧ i ≤ k0 + 18) ∨ (69 ≤ i ∧ i ≤ 71)) V V1808 ∧ (∃ nf : Nat, (5 - z1807).toNat < nf ∧ Imp (lop2 nf bd1808 z1807 V1808) (f_s_oneDay k0 V J Rr))) (μ := fun x : Int × (Nat → Nat → Int) => match x with | (z1807, V1808) => (5 - z1807).toNat) (wsf := fun x : Int × (Nat → Nat → Int) => match x with | (z1807, V1808) => XW cy ad V1808 J Rr) (lvf := fun x : Int × (Nat → Nat → Int) => match x with | (z1807, V1808) => [(2, vI z1807), (0, .ref (ad k0)), (1, .ref (ad 60))]) (fun x hI1808x ih1808 => ?_) (0, V1084) ⟨⟨by decide, by decide⟩, hI1084, hB1084, ⟨_, (by omega), hF⟩⟩ rfl rfl
    obtain ⟨z1807, V1808⟩ := x
    obtain ⟨bz1807, hI1808, hB1808, nf1808, hn1808, hF⟩ := hI1808x
    try dsimp only
    obtain ⟨nf1808, rfl⟩ : ∃ mm, nf1808 = mm + 1 := ⟨nf1808 - 1, (Nat.succ_pred_eq_of_pos (Nat.lt_of_le_of_lt (Nat.zero_le _) hn1808)).symm⟩
    replace hF := hF.to (lop2_s hbd1808)
    refine x_iload_n C.1 dX3_oneDay_64 0 rfl ?_
    refine x_iconst C.1 (n := 4) dX3_oneDay_65 ?_
    refine x_icmp_ge C.1 (tgt := 122) dX3_oneDay_66 (by decide) (by omega) (by decide) (fun hc1894 => ?_) (fun hc1894 => ?_)
    · replace hF := hF.to (if_pos hc1894)
      refine x_aload_n C.1 dX3_oneDay_122 1 rfl ?_
      refine x_dup C.1 dX3_oneDay_123 rfl ?_
      obtain ⟨z1895, ez1895, bz1895⟩ := hI1808.rd k0 3 (x := -2147483648) (y := 2147483647) (rg_L hk0 _)
      replace hF := hF.to (rdb_e (z := z1895) ez1895)
      refine x_getI C (N := 129) (i := k0) (by omega) (xd_L hk0) vc_X3 wx_X3 3 (by decide) wf_X3_39 rfl dX3_oneDay_124 (a := z1895) ez1895 ?_
      refine x_iconst C.1 (n := 1) dX3_oneDay_127 ?_
      refine x_iadd C.1 (v := z1895 + 1) (by omega) dX3_oneDay_128 ?_
      refine x_wrapg ?_
      intro z1896 bz1896 ew1896
      replace hF := hF.to (rdb_e (z := z1896) ew1896.symm)
      refine x_putI C (N := 129) (i := k0) (by omega) (xd_L hk0) vc_X3 wx_X3 3 (by decide) wf_X3_39 tyX3 tyX3_ok nmX3 rfl (tyX3_ok 3 (by decide)) rfl dX3_oneDay_129 rfl rfl ?_
      refine x_gV ?_
      intro V1897 hV1897
      have hI1897 : XI G V1897 := hI1808.up hV1897 (rg_L hk0 _) (by omega) (pr_L hk0 _)
      have hB1897 := hB1808.up hV1897 (Or.inl (⟨Nat.le_refl _, by omega⟩))
      replace hF := hF.to (rdb_e (z := V1897) hV1897.symm)
      exact x_vret (S := (Nat → Nat → Int)) (post := (fun u : Nat → Nat → Int => XI G u ∧ FB (fun i k : Nat => (k0 ≤ i ∧ i ≤ k0 + 18) ∨ (69 ≤ i ∧ i ≤ 71)) V u ∧ (f_s_oneDay k0 V J Rr) u)) (w1 := (fun u : Nat → Nat → Int => XW cy ad u J Rr)) C hr rfl dX3_oneDay_132 V1897 rfl ⟨hI1897, hB1897, hF _ rfl⟩
    · replace hF := hF.to (if_neg hc1894)
      refine x_aload_n C.1 dX3_oneDay_69 1 rfl ?_
      refine x_iload_n C.1 dX3_oneDay_70 0 rfl ?_
      refine x_callVi C (As := [vI z1807]) (rest := []) k0 (xw_at (N := 129) (i := k0) (by omega) (xd_L hk0)) vc_X3 (s_isAlive l D cy ad G V1808 J Rr hI1808 hJ hR k0 hk0 z1807 ⟨by omega, by omega⟩) (l1 := []) (l2 := []) (List.append_nil _).symm (w2 := fun _ => XW cy ad V1808 J Rr) (fun _ => List.append_nil _) rfl wm_yX3_isAlive wn_X3 wl_X3_88 wi_yX3_isAlive we_yX3_isAlive hd_yX3_isAlive rfl ⟨Nat.le_of_ble_eq_true rfl, Nat.le_of_ble_eq_true rfl⟩ (Nat.le_of_ble_eq_true rfl) ⟨Nat.le_of_ble_eq_true rfl, Nat.le_of_ble_eq_true rfl⟩ dX3_oneDay_71 (fun z1898 u1898 bz1898 h1898 => ?_)
      obtain ⟨hon1898, hFc1898⟩ := h1898
      replace hF := calR_i hF hFc1898
      replace hF := hF.fc hon1898.r
      have bq1898 := Sp.r hon1898
      obtain ⟨jf1911, hjf1911, hF⟩ := jn_ex hF
      refine x_join (I := fun V1911 : (Nat → Nat → Int) => XI G V1911 ∧ FB (fun i k : Nat => (k0 ≤ i ∧ i ≤ k0 + 18) ∨ (69 ≤ i ∧ i ≤ 71)) V V1911 ∧ Imp (jf1911 V1911) (f_s_oneDay k0 V J Rr)) (wsf := fun V1911 : (Nat → Nat → Int) => XW cy ad V1911 J Rr) (lvf := fun V1911 : (Nat → Nat → Int) => [(2, vI z1807), (0, .ref (ad k0)), (1, .ref (ad 60))]) (stf := fun V1911 : (Nat → Nat → Int) => []) 116 (fun V1911 hI1911x => ?_) (fun jn1911 => ?_)
      · obtain ⟨hI1911, hB1911, hF⟩ := hI1911x
        try dsimp only
        replace hF := hF.to (jn_s1 hjf1911)
        refine x_iinc C.1 (v := z1807 + 1) (lv' := [(2, vI (z1807 + 1)), (0, .ref (ad k0)), (1, .ref (ad 60))]) (by omega) dX3_oneDay_116 0 rfl (by decide) rfl ?_
        refine x_goto C.1 (tgt := 64) dX3_oneDay_119 (by decide) ?_
        have hmu1808 : (5 - (z1807 + 1)).toNat < (5 - z1807).toNat := (by omega)
        exact ih1808 (z1807 + 1, V1911) ⟨⟨by omega, by omega⟩, hI1911, hB1911, ⟨nf1808, Nat.lt_of_lt_of_le hmu1808 (Nat.le_of_lt_succ hn1808), hF⟩⟩ hmu1808
      · refine x_if_eq C.1 (tgt := 116) dX3_oneDay_74 (by decide) (by omega) (fun hc1912 => ?_) (fun hc1912 => ?_)
        · replace hF := hF.to (if_pos hc1912)
          exact jn1911 V1808 ⟨hI1808, hB1808, hF⟩
        · replace hF := hF.to (if_neg hc1912)
          have hon1913 := Sp.on hon1898 (by omega)
          refine x_aload_n C.1 dX3_oneDay_77 1 rfl ?_
          refine x_callVi C (As := []) (rest := []) k0 (xw_at (N := 129) (i := k0) (by omega) (xd_L hk0)) vc_X3 (s_draw l D cy ad G V1808 J Rr hI1808 hJ hR k0 hk0) (l1 := []) (l2 := []) (List.append_nil _).symm (w2 := fun u : Nat → Nat → Int => XW cy ad u J Rr) (fun _ => List.append_nil _) rfl wm_yX3_draw wn_X3 wl_X3_80 wi_yX3_draw we_yX3_draw hd_yX3_draw rfl ⟨Nat.le_of_ble_eq_true rfl, Nat.le_of_ble_eq_true rfl⟩ (Nat.le_of_ble_eq_true rfl) ⟨Nat.le_of_ble_eq_true rfl, Nat.le_of_ble_eq_true rfl⟩ dX3_oneDay_78 (fun z1914 V1914 bz1914 h1914 => ?_)
          obtain ⟨hI1914, hBc1914, hFc1914⟩ := h1914
          replace hF := calVX_i hF hFc1914 hBc1914
          have hB1914 := hB1808.tr hBc1914 (fun i k h => (Or.inl (⟨by omega, by omega⟩)))
          refine x_iconst C.1 (n := 5) dX3_oneDay_81 ?_
          obtain ⟨jf1916, hjf1916, hF⟩ := jn_ex hF
          refine x_join (I := fun z1915 : Int => (0 ≤ z1915 ∧ z1915 ≤ 1) ∧ Imp (jf1916 z1915) (f_s_oneDay k0 V J Rr)) (wsf := fun z1915 : Int => XW cy ad V1914 J Rr) (lvf := fun z1915 : Int => [(2, vI z1807), (0, .ref (ad k0)), (1, .ref (ad 60))]) (stf := fun z1915 : Int => [vI z1915]) 90 (fun z1915 hI1916x => ?_) (fun jn1916 => ?_)
          · obtain ⟨bz1915, hF⟩ := hI1916x
            try dsimp only
            replace hF := hF.to (jn_s1 hjf1916)
            refine x_istore_n C.1 (lv' := [(3, vI z1915), (2, vI z1807), (0, .ref (ad k0)), (1, .ref (ad 60))]) dX3_oneDay_90 (by decide) rfl ?_
            refine x_aload_n C.1 dX3_oneDay_91 2 rfl ?_
            refine x_dup C.1 dX3_oneDay_92 rfl ?_
            obtain ⟨z1917, ez1917, bz1917⟩ := hI1914.rd k0 7 (x := -2147483648) (y := 2147483647) (rg_L hk0 _)
            replace hF := hF.to (rdb_e (z := z1917) ez1917)
            refine x_getI C (N := 129) (i := k0) (by omega) (xd_L hk0) vc_X3 wx_X3 7 (by decide) wf_X3_73 rfl dX3_oneDay_93 (a := z1917) ez1917 ?_
            refine x_iload_n C.1 dX3_oneDay_96 0 rfl ?_
            obtain ⟨jf1919, hjf1919, hF⟩ := jn_ex hF
            refine x_join (I := fun z1918 : Int => (0 ≤ z1918 ∧ z1918 ≤ 1) ∧ Imp (jf1919 z1918) (f_s_oneDay k0 V J Rr)) (wsf := fun z1918 : Int => XW cy ad V1914 J Rr) (lvf := fun z1918 : Int => [(3, vI z1915), (2, vI z1807), (0, .ref (ad k0)), (1, .ref (ad 60))]) (stf := fun z1918 : Int => [vI z1918, vI z1917, .ref (ad k0)]) 105 (fun z1918 hI1919x => ?_) (fun jn1919 => ?_)
            · obtain ⟨bz1918, hF⟩ := hI1919x
              try dsimp only
              replace hF := hF.to (jn_s1 hjf1919)
              refine x_iadd C.1 (v := z1917 + z1918) (by omega) dX3_oneDay_105 ?_
              refine x_wrapg ?_
              intro z1920 bz1920 ew1920
              replace hF := hF.to (rdb_e (z := z1920) ew1920.symm)
              refine x_putI C (N := 129) (i := k0) (by omega) (xd_L hk0) vc_X3 wx_X3 7 (by decide) wf_X3_73 tyX3 tyX3_ok nmX3 rfl (tyX3_ok 7 (by decide)) rfl dX3_oneDay_106 rfl rfl ?_
              refine x_gV ?_
              intro V1921 hV1921
              have hI1921 : XI G V1921 := hI1914.up hV1921 (rg_L hk0 _) (by omega) (pr_L hk0 _)
              have hB1921 := hB1914.up hV1921 (Or.inl (⟨Nat.le_refl _, by omega⟩))
              replace hF := hF.to (rdb_e (z := V1921) hV1921.symm)
              refine x_aload_n C.1 dX3_oneDay_109 2 rfl ?_
              refine x_aload_n C.1 dX3_oneDay_110 3 rfl ?_
              refine x_iload_n C.1 dX3_oneDay_111 1 rfl ?_
              refine x_iload_n C.1 dX3_oneDay_112 0 rfl ?_
              refine x_callVv C (As := [.ref (ad 60), vI z1807, vI z1915]) (rest := []) k0 (xw_at (N := 129) (i := k0) (by omega) (xd_L hk0)) vc_X3 (s_endDay l D cy ad G V1921 J Rr hI1921 hJ hR k0 hk0 z1807 ⟨by omega, by omega⟩ z1915 ⟨by omega, by omega⟩) (l1 := []) (l2 := []) (List.append_nil _).symm (w2 := fun u : Nat → Nat → Int => XW cy ad u J Rr) (fun _ => List.append_nil _) rfl wm_yX3_endDay wn_X3 wl_X3_91 wi_yX3_endDay we_yX3_endDay hd_yX3_endDay rfl ⟨Nat.le_of_ble_eq_true rfl, Nat.le_of_ble_eq_true rfl⟩ (Nat.le_of_ble_eq_true rfl) ⟨Nat.le_of_ble_eq_true rfl, Nat.le_of_ble_eq_true rfl⟩ dX3_oneDay_113 (fun V1922 h1922 => ?_)
              obtain ⟨hI1922, hBc1922, hFc1922⟩ := h1922
              replace hF := calUX_i hF hFc1922 hBc1922
              have hB1922 := hB1921.tr hBc1922 (fun i k h => (h.elim (fun h => (Or.inr (h))) (fun h => (Or.inl (⟨by omega, by omega⟩)))))
              refine x_lv [(2, vI z1807), (0, .ref (ad k0)), (1, .ref (ad 60))] [1, 2, 3] rfl ?_
              exact jn1911 V1922 ⟨hI1922, hB1922, hF⟩
            · refine x_if_eq C.1 (tgt := 104) dX3_oneDay_97 (by decide) (by omega) (fun hc1923 => ?_) (fun hc1923 => ?_)
              · replace hF := hF.to (if_pos hc1923)
                refine x_iconst C.1 (n := 0) dX3_oneDay_104 ?_
                exact jn1919 0 ⟨⟨by decide, by decide⟩, hF⟩
              · replace hF := hF.to (if_neg hc1923)
                refine x_iconst C.1 (n := 1) dX3_oneDay_100 ?_
                refine x_goto C.1 (tgt := 105) dX3_oneDay_101 (by decide) ?_
                exact jn1919 1 ⟨⟨by decide, by decide⟩, hF⟩
          · refine x_icmp_ge C.1 (tgt := 89) dX3_oneDay_82 (by decide) (by omega) (by decide) (fun hc1924 => ?_) (fun hc1924 => ?_)
            · replace hF := hF.to (if_pos hc1924)
              refine x_iconst C.1 (n := 0) dX3_oneDay_89 ?_
              exact jn1916 0 ⟨⟨by decide, by decide⟩, hF⟩
            · replace hF := hF.to (if_neg hc1924)
              refine x_iconst C.1 (n := 1) dX3_oneDay_85 ?_
              refine x_goto C.1 (tgt := 90) dX3_oneDay_86 (by decide) ?_
              exact jn1916 1 ⟨⟨by decide, by decide⟩, hF⟩
  · replace hF := hF.to (if_neg hc1577)
    refine x_aload_n C.1 dX3_oneDay_8 1 rfl ?_
    refine x_getA C (N := 129) (i := k0) (by omega) (xd_L hk0) vc_X3 wx_X3 1 (by decide) wf_X3_19 (a := k0 + 2) rfl dX3_oneDay_9 ?_
    refine x_iload_n C.1 dX3_oneDay_12 0 rfl ?_
    obtain ⟨c1925, ec1925, hc1925⟩ : ∃ cx : Nat, k0 + 11 + 1 * z1083.toNat = cx ∧ isPe cx := ⟨_, rfl, isPe_L hk0 (by omega)⟩
    replace hF := hF.to (rdb_e (z := c1925) ec1925)
    refine x_aldS C (N := 129) (i := k0 + 2) (q := z1083) (t := 5) rfl (by omega) (xd_Lb hk0) (by omega) (by decide) dX3_oneDay_13 (a := c1925) ec1925 ?_
    obtain ⟨z1926, ez1926, bz1926⟩ := hI1084.rd c1925 0 (x := 0) (y := 1) (rg_E hc1925 0)
    replace hF := hF.to (rdb_e (z := z1926) ez1926)
    replace hF := hF.fc bz1926
    refine x_getI C (N := 129) (i := c1925) hc1925.1 hc1925.2 vc_X4 wx_X4 0 (by decide) wf_X3_42 rfl dX3_oneDay_14 (a := z1926) ez1926 ?_
    obtain ⟨jf1949, hjf1949, hF⟩ := jn_ex hF
    refine x_join (I := fun V1949 : (Nat → Nat → Int) => XI G V1949 ∧ FB (fun i k : Nat => (k0 ≤ i ∧ i ≤ k0 + 18) ∨ (69 ≤ i ∧ i ≤ 71)) V V1949 ∧ Imp (jf1949 V1949) (f_s_oneDay k0 V J Rr)) (wsf := fun V1949 : (Nat → Nat → Int) => XW cy ad V1949 J Rr) (lvf := fun V1949 : (Nat → Nat → Int) => [(2, vI z1083), (0, .ref (ad k0)), (1, .ref (ad 60))]) (stf := fun V1949 : (Nat → Nat → Int) => []) 56 (fun V1949 hI1949x => ?_) (fun jn1949 => ?_)
    · obtain ⟨hI1949, hB1949, hF⟩ := hI1949x
      try dsimp only
      replace hF := hF.to (jn_s1 hjf1949)
      refine x_iinc C.1 (v := z1083 + 1) (lv' := [(2, vI (z1083 + 1)), (0, .ref (ad k0)), (1, .ref (ad 60))]) (by omega) dX3_oneDay_56 0 rfl (by decide) rfl ?_
      refine x_goto C.1 (tgt := 2) dX3_oneDay_59 (by decide) ?_
      have hmu1084 : (9 - (z1083 + 1)).toNat < (9 - z1083).toNat := (by omega)
      exact ih1084 (z1083 + 1, V1949) ⟨⟨by omega, by omega⟩, hI1949, hB1949, ⟨nf1084, Nat.lt_of_lt_of_le hmu1084 (Nat.le_of_lt_succ hn1084), hF⟩⟩ hmu1084
    · refine x_if_eq C.1 (tgt := 56) dX3_oneDay_17 (by decide) (by omega) (fun hc1950 => ?_) (fun hc1950 => ?_)
      · replace hF := hF.to (if_pos hc1950)
        exact jn1949 V1084 ⟨hI1084, hB1084, hF⟩
      · replace hF := hF.to (if_neg hc1950)
        refine x_aload_n C.1 dX3_oneDay_20 1 rfl ?_
        refine x_callVi C (As := []) (rest := []) k0 (xw_at (N := 129) (i := k0) (by omega) (xd_L hk0)) vc_X3 (s_draw l D cy ad G V1084 J Rr hI1084 hJ hR k0 hk0) (l1 := []) (l2 := []) (List.append_nil _).symm (w2 := fun u : Nat → Nat → Int => XW cy ad u J Rr) (fun _ => List.append_nil _) rfl wm_yX3_draw wn_X3 wl_X3_80 wi_yX3_draw we_yX3_draw hd_yX3_draw rfl ⟨Nat.le_of_ble_eq_true rfl, Nat.le_of_ble_eq_true rfl⟩ (Nat.le_of_ble_eq_true rfl) ⟨Nat.le_of_ble_eq_true rfl, Nat.le_of_ble_eq_true rfl⟩ dX3_oneDay_21 (fun z1951 V1951 bz1951 h1951 => ?_)
        obtain ⟨hI1951, hBc1951, hFc1951⟩ := h1951
        replace hF := calVX_i hF hFc1951 hBc1951
        have hB1951 := hB1084.tr hBc1951 (fun i k h => (Or.inl (⟨by omega, by omega⟩)))
        refine x_aload_n C.1 dX3_oneDay_24 1 rfl ?_
        refine x_getA C (N := 129) (i := k0) (by omega) (xd_L hk0) vc_X3 wx_X3 1 (by decide) wf_X3_19 (a := k0 + 2) rfl dX3_oneDay_25 ?_
        refine x_iload_n C.1 dX3_oneDay_28 0 rfl ?_
        refine x_aldS C (N := 129) (i := k0 + 2) (q := z1083) (t := 5) rfl (by omega) (xd_Lb hk0) (by omega) (by decide) dX3_oneDay_29 (a := c1925) ec1925 ?_
        obtain ⟨z1952, ez1952, bz1952⟩ := hI1951.rd c1925 1 (x := -2147483648) (y := 2147483647) (rg_E hc1925 1)
        replace hF := hF.to (rdb_e (z := z1952) ez1952)
        refine x_getI C (N := 129) (i := c1925) hc1925.1 hc1925.2 vc_X4 wx_X4 1 (by decide) wf_X3_46 rfl dX3_oneDay_30 (a := z1952) ez1952 ?_
        refine x_icmp_ge C.1 (tgt := 56) dX3_oneDay_33 (by decide) (by omega) (by omega) (fun hc1953 => ?_) (fun hc1953 => ?_)
        · replace hF := hF.to (if_pos hc1953)
          exact jn1949 V1951 ⟨hI1951, hB1951, hF⟩
        · replace hF := hF.to (if_neg hc1953)
          refine x_iconst C.1 (n := 0) dX3_oneDay_36 ?_
          refine x_istore_n C.1 (lv' := [(3, vI 0), (2, vI z1083), (0, .ref (ad k0)), (1, .ref (ad 60))]) dX3_oneDay_37 (by decide) rfl ?_
          obtain ⟨bd1968, hbd1968, hF⟩ := lop2_ex hF
          refine x_loop (I := fun x : Int × (Nat → Nat → Int) => match x with | (z1967, V1968) => (0 ≤ z1967 ∧ z1967 ≤ 4) ∧ XI G V1968 ∧ FB (fun i k : Nat => (k0 ≤ i ∧ i ≤ k0 + 18) ∨ (69 ≤ i ∧ i ≤ 71)) V V1968 ∧ (∃ nf : Nat, (5 - z1967).toNat < nf ∧ Imp (lop2 nf bd1968 z1967 V1968) (f_s_oneDay k0 V J Rr))) (μ := fun x : Int × (Nat → Nat → Int) => match x with | (z1967, V1968) => (5 - z1967).toNat) (wsf := fun x : Int × (Nat → Nat → Int) => match x with | (z1967, V1968) => XW cy ad V1968 J Rr) (lvf := fun x : Int × (Nat → Nat → Int) => match x with | (z1967, V1968) => [(3, vI z1967), (2, vI z1083), (0, .ref (ad k0)), (1, .ref (ad 60))]) (fun x hI1968x ih1968 => ?_) (0, V1951) ⟨⟨by decide, by decide⟩, hI1951, hB1951, ⟨_, (by omega), hF⟩⟩ rfl rfl
          obtain ⟨z1967, V1968⟩ := x
          obtain ⟨bz1967, hI1968, hB1968, nf1968, hn1968, hF⟩ := hI1968x
          try dsimp only
          obtain ⟨nf1968, rfl⟩ : ∃ mm, nf1968 = mm + 1 := ⟨nf1968 - 1, (Nat.succ_pred_eq_of_pos (Nat.lt_of_le_of_lt (Nat.zero_le _) hn1968)).symm⟩
          replace hF := hF.to (lop2_s hbd1968)
          refine x_iload_n C.1 dX3_oneDay_38 0 rfl ?_
          refine x_iconst C.1 (n := 4) dX3_oneDay_39 ?_
          refine x_icmp_ge C.1 (tgt := 56) dX3_oneDay_40 (by decide) (by omega) (by decide) (fun hc1971 => ?_) (fun hc1971 => ?_)
          · replace hF := hF.to (if_pos hc1971)
            refine x_lv [(2, vI z1083), (0, .ref (ad k0)), (1, .ref (ad 60))] [1, 2, 3] rfl ?_
            exact jn1949 V1968 ⟨hI1968, hB1968, hF⟩
          · replace hF := hF.to (if_neg hc1971)
            refine x_aload_n C.1 dX3_oneDay_43 2 rfl ?_
            refine x_aload_n C.1 dX3_oneDay_44 3 rfl ?_
            refine x_iload_n C.1 dX3_oneDay_45 1 rfl ?_
            refine x_iload_n C.1 dX3_oneDay_46 0 rfl ?_
            refine x_callVv C (As := [.ref (ad 60), vI z1083, vI z1967]) (rest := []) k0 (xw_at (N := 129) (i := k0) (by omega) (xd_L hk0)) vc_X3 (s_giveTo l D cy ad G V1968 J Rr hI1968 hJ hR k0 hk0 z1083 ⟨by omega, by omega⟩ z1967 ⟨by omega, by omega⟩) (l1 := []) (l2 := []) (List.append_nil _).symm (w2 := fun u : Nat → Nat → Int => XW cy ad u J Rr) (fun _ => List.append_nil _) rfl wm_yX3_giveTo wn_X3 wl_X3_84 wi_yX3_giveTo we_yX3_giveTo hd_yX3_giveTo rfl ⟨Nat.le_of_ble_eq_true rfl, Nat.le_of_ble_eq_true rfl⟩ (Nat.le_of_ble_eq_true rfl) ⟨Nat.le_of_ble_eq_true rfl, Nat.le_of_ble_eq_true rfl⟩ dX3_oneDay_47 (fun V1972 h1972 => ?_)
            obtain ⟨hI1972, hBc1972, hFc1972⟩ := h1972
            replace hF := calUX_i hF hFc1972 hBc1972
            have hB1972 := hB1968.tr hBc1972 (fun i k h => (h.elim (fun h => (Or.inr (h))) (fun h => (Or.inl (⟨by omega, by omega⟩)))))
            refine x_iinc C.1 (v := z1967 + 1) (lv' := [(3, vI (z1967 + 1)), (2, vI z1083), (0, .ref (ad k0)), (1, .ref (ad 60))]) (by omega) dX3_oneDay_50 0 rfl (by decide) rfl ?_
            refine x_goto C.1 (tgt := 38) dX3_oneDay_53 (by decide) ?_
            have hmu1968 : (5 - (z1967 + 1)).toNat < (5 - z1967).toNat := (by omega)
            exact ih1968 (z1967 + 1, V1972) ⟨⟨by omega, by omega⟩, hI1972, hB1972, ⟨nf1968, Nat.lt_of_lt_of_le hmu1968 (Nat.le_of_lt_succ hn1968), hF⟩⟩ hmu1968
theorem hd_yX3_oneDay : yX3_oneDay.cls ≠ "java/lang/invoke/MethodHandle" ∧ yX3_oneDay.cls ≠ "java/lang/invoke/VarHandle" ∧ (parseMethodDescriptor yX3_oneDay.desc).map (fun d => d.parameters.length) = some 1 := by decide +kernel
theorem dX3_goBy_0 : decode cX3_goBy 0 = .ok (.aload_n 0, 1) := by decide +kernel
theorem dX3_goBy_1 : decode cX3_goBy 1 = .ok (.iconst 0, 1) := by decide +kernel
theorem dX3_goBy_2 : decode cX3_goBy 2 = .ok (.putfield 69, 3) := by decide +kernel
theorem dX3_goBy_5 : decode cX3_goBy 5 = .ok (.aload_n 0, 1) := by decide +kernel
theorem dX3_goBy_6 : decode cX3_goBy 6 = .ok (.iconst 0, 1) := by decide +kernel
theorem dX3_goBy_7 : decode cX3_goBy 7 = .ok (.putfield 70, 3) := by decide +kernel
theorem dX3_goBy_10 : decode cX3_goBy 10 = .ok (.aload_n 0, 1) := by decide +kernel
theorem dX3_goBy_11 : decode cX3_goBy 11 = .ok (.iconst 0, 1) := by decide +kernel
theorem dX3_goBy_12 : decode cX3_goBy 12 = .ok (.putfield 73, 3) := by decide +kernel
theorem dX3_goBy_15 : decode cX3_goBy 15 = .ok (.iconst 0, 1) := by decide +kernel
theorem dX3_goBy_16 : decode cX3_goBy 16 = .ok (.istore_n 3, 1) := by decide +kernel
theorem dX3_goBy_17 : decode cX3_goBy 17 = .ok (.iload_n 3, 1) := by decide +kernel
theorem dX3_goBy_18 : decode cX3_goBy 18 = .ok (.iload_n 2, 1) := by decide +kernel
theorem dX3_goBy_19 : decode cX3_goBy 19 = .ok (.if_icmp .ge 24, 3) := by decide +kernel
theorem dX3_goBy_22 : decode cX3_goBy 22 = .ok (.aload_n 0, 1) := by decide +kernel
theorem dX3_goBy_23 : decode cX3_goBy 23 = .ok (.getfield 39, 3) := by decide +kernel
theorem dX3_goBy_26 : decode cX3_goBy 26 = .ok (.sipush 9999, 3) := by decide +kernel
theorem dX3_goBy_29 : decode cX3_goBy 29 = .ok (.if_icmp .ge 14, 3) := by decide +kernel
theorem dX3_goBy_32 : decode cX3_goBy 32 = .ok (.aload_n 0, 1) := by decide +kernel
theorem dX3_goBy_33 : decode cX3_goBy 33 = .ok (.aload_n 1, 1) := by decide +kernel
theorem dX3_goBy_34 : decode cX3_goBy 34 = .ok (.invokevirtual 76, 3) := by decide +kernel
theorem dX3_goBy_37 : decode cX3_goBy 37 = .ok (.iinc 3 1, 3) := by decide +kernel
theorem dX3_goBy_40 : decode cX3_goBy 40 = .ok (.goto (-23), 3) := by decide +kernel
theorem dX3_goBy_43 : decode cX3_goBy 43 = .ok (.return_, 1) := by decide +kernel
set_option maxRecDepth 100000 in
def f_s_goBy (k0 : Nat) (x2 : Int) (V : Nat → Nat → Int) (J : Nat → Nat → Int) (Rr : Nat → Nat → Nat) : (Nat → Nat → Int) → Prop :=
  rdb (up2 V k0 5 0) fun V1 => rdb (up2 V1 k0 6 0) fun V2 => rdb (up2 V2 k0 7 0) fun V3 => lop2 (2147483649) (fun rc29 (z28 : Int) (V29 : Nat → Nat → Int) => (if x2 ≤ z28 then rtn V29 else rdb (V29 k0 3) fun z35 => (if 9999 ≤ z35 then rtn V29 else calUX (fun i k : Nat => (k0 ≤ i ∧ i ≤ k0 + 18) ∨ (69 ≤ i ∧ i ≤ 71)) V29 (f_s_oneDay k0 V29 J Rr) fun V37 => rc29 (z28 + 1) V37))) 0 V3
set_option maxHeartbeats 8000000 in
set_option maxRecDepth 100000 in
theorem s_goBy (l : Launch) (D : va_G) (cy : Nat → ClassId) (ad : Nat → Nat) (G : Nat → Nat → Int) (V J : Nat → Nat → Int) (Rr : Nat → Nat → Nat) (hI : XI G V) (hJ : VJ J) (hR : XR Rr) (k0 : Nat) (hk0 : isLa k0) (x2 : Int) (bx2 : -2147483648 ≤ x2 ∧ x2 ≤ 2147483647) : xMv l D (xTY cy) yX3_goBy cX3_goBy 4 none 6 148 0 0 [.ref (ad k0), .ref (ad 60), vI x2] (XW cy ad V J Rr) (fun u : Nat → Nat → Int => XW cy ad u J Rr) (fun u : Nat → Nat → Int => XI G u ∧ FB (fun i k : Nat => (k0 ≤ i ∧ i ≤ k0 + 18) ∨ (69 ≤ i ∧ i ≤ 71)) V u ∧ (f_s_goBy k0 x2 V J Rr) u) := by
  refine xMv.mk (lv0 := [(0, .ref (ad k0)), (1, .ref (ad 60)), (2, vI x2)]) (by decide) rfl (Nat.le_of_ble_eq_true rfl) (fun p e s m below meth c A C hr hnm hAe => ?_)
  have C : xC2 p s m _ meth c D A s.heap 4 cX3_goBy RX3 (xTY cy) := C
  have hB : FB (fun i k : Nat => (k0 ≤ i ∧ i ≤ k0 + 18) ∨ (69 ≤ i ∧ i ≤ 71)) V V := FB.rf _ _
  have hF := Imp.of_eq (f_s_goBy.eq_def k0 x2 V J Rr)
  refine x_aload_n C.1 dX3_goBy_0 0 rfl ?_
  refine x_iconst C.1 (n := 0) dX3_goBy_1 ?_
  refine x_putI C (N := 129) (i := k0) (by omega) (xd_L hk0) vc_X3 wx_X3 5 (by decide) wf_X3_69 tyX3 tyX3_ok nmX3 rfl (tyX3_ok 5 (by decide)) rfl dX3_goBy_2 rfl rfl ?_
  refine x_gV ?_
  intro V1 hV1
  have hI1 : XI G V1 := hI.up hV1 (rg_L hk0 _) (by decide) (pr_L hk0 _)
  have hB1 := hB.up hV1 (Or.inl (⟨Nat.le_refl _, by omega⟩))
  replace hF := hF.to (rdb_e (z := V1) hV1.symm)
  refine x_aload_n C.1 dX3_goBy_5 0 rfl ?_
  refine x_iconst C.1 (n := 0) dX3_goBy_6 ?_
  refine x_putI C (N := 129) (i := k0) (by omega) (xd_L hk0) vc_X3 wx_X3 6 (by decide) wf_X3_70 tyX3 tyX3_ok nmX3 rfl (tyX3_ok 6 (by decide)) rfl dX3_goBy_7 rfl rfl ?_
  refine x_gV ?_
  intro V2 hV2
  have hI2 : XI G V2 := hI1.up hV2 (rg_L hk0 _) (by decide) (pr_L hk0 _)
  have hB2 := hB1.up hV2 (Or.inl (⟨Nat.le_refl _, by omega⟩))
  replace hF := hF.to (rdb_e (z := V2) hV2.symm)
  refine x_aload_n C.1 dX3_goBy_10 0 rfl ?_
  refine x_iconst C.1 (n := 0) dX3_goBy_11 ?_
  refine x_putI C (N := 129) (i := k0) (by omega) (xd_L hk0) vc_X3 wx_X3 7 (by decide) wf_X3_73 tyX3 tyX3_ok nmX3 rfl (tyX3_ok 7 (by decide)) rfl dX3_goBy_12 rfl rfl ?_
  refine x_gV ?_
  intro V3 hV3
  have hI3 : XI G V3 := hI2.up hV3 (rg_L hk0 _) (by decide) (pr_L hk0 _)
  have hB3 := hB2.up hV3 (Or.inl (⟨Nat.le_refl _, by omega⟩))
  replace hF := hF.to (rdb_e (z := V3) hV3.symm)
  refine x_iconst C.1 (n := 0) dX3_goBy_15 ?_
  refine x_istore_n C.1 (lv' := [(3, vI 0), (0, .ref (ad k0)), (1, .ref (ad 60)), (2, vI x2)]) dX3_goBy_16 (by decide) rfl ?_
  obtain ⟨bd29, hbd29, hF⟩ := lop2_ex hF
  refine x_loop (I := fun x : Int × (Nat → Nat → Int) => match x with | (z28, V29) => (0 ≤ z28 ∧ z28 ≤ 2147483647) ∧ XI G V29 ∧ FB (fun i k : Nat => (k0 ≤ i ∧ i ≤ k0 + 18) ∨ (69 ≤ i ∧ i ≤ 71)) V V29 ∧ (∃ nf : Nat, (2147483648 - z28).toNat < nf ∧ Imp (lop2 nf bd29 z28 V29) (f_s_goBy k0 x2 V J Rr))) (μ := fun x : Int × (Nat → Nat → Int) => match x with | (z28, V29) => (2147483648 - z28).toNat) (wsf := fun x : Int × (Nat → Nat → Int) => match x with | (z28, V29) => XW cy ad V29 J Rr) (lvf := fun x : Int × (Nat → Nat → Int) => match x with | (z28, V29) => [(3, vI z28), (0, .ref (ad k0)), (1, .ref (ad 60)), (2, vI x2)]) (fun x hI29x ih29 => ?_) (0, V3) ⟨⟨by decide, by decide⟩, hI3, hB3, ⟨_, (by omega), hF⟩⟩ rfl rfl
  obtain ⟨z28, V29⟩ := x
  obtain ⟨bz28, hI29, hB29, nf29, hn29, hF⟩ := hI29x
  try dsimp only
  obtain ⟨nf29, rfl⟩ : ∃ mm, nf29 = mm + 1 := ⟨nf29 - 1, (Nat.succ_pred_eq_of_pos (Nat.lt_of_le_of_lt (Nat.zero_le _) hn29)).symm⟩
  replace hF := hF.to (lop2_s hbd29)
  refine x_iload_n C.1 dX3_goBy_17 0 rfl ?_
  refine x_iload_n C.1 dX3_goBy_18 3 rfl ?_
  refine x_icmp_ge C.1 (tgt := 43) dX3_goBy_19 (by decide) (by omega) (by omega) (fun hc34 => ?_) (fun hc34 => ?_)
  · replace hF := hF.to (if_pos hc34)
    exact x_vret (S := (Nat → Nat → Int)) (post := (fun u : Nat → Nat → Int => XI G u ∧ FB (fun i k : Nat => (k0 ≤ i ∧ i ≤ k0 + 18) ∨ (69 ≤ i ∧ i ≤ 71)) V u ∧ (f_s_goBy k0 x2 V J Rr) u)) (w1 := (fun u : Nat → Nat → Int => XW cy ad u J Rr)) C hr rfl dX3_goBy_43 V29 rfl ⟨hI29, hB29, hF _ rfl⟩
  · replace hF := hF.to (if_neg hc34)
    refine x_aload_n C.1 dX3_goBy_22 1 rfl ?_
    obtain ⟨z35, ez35, bz35⟩ := hI29.rd k0 3 (x := -2147483648) (y := 2147483647) (rg_L hk0 _)
    replace hF := hF.to (rdb_e (z := z35) ez35)
    refine x_getI C (N := 129) (i := k0) (by omega) (xd_L hk0) vc_X3 wx_X3 3 (by decide) wf_X3_39 rfl dX3_goBy_23 (a := z35) ez35 ?_
    refine x_sipush C.1 (n := 9999) dX3_goBy_26 ?_
    refine x_icmp_ge C.1 (tgt := 43) dX3_goBy_29 (by decide) (by omega) (by decide) (fun hc36 => ?_) (fun hc36 => ?_)
    · replace hF := hF.to (if_pos hc36)
      exact x_vret (S := (Nat → Nat → Int)) (post := (fun u : Nat → Nat → Int => XI G u ∧ FB (fun i k : Nat => (k0 ≤ i ∧ i ≤ k0 + 18) ∨ (69 ≤ i ∧ i ≤ 71)) V u ∧ (f_s_goBy k0 x2 V J Rr) u)) (w1 := (fun u : Nat → Nat → Int => XW cy ad u J Rr)) C hr rfl dX3_goBy_43 V29 rfl ⟨hI29, hB29, hF _ rfl⟩
    · replace hF := hF.to (if_neg hc36)
      refine x_aload_n C.1 dX3_goBy_32 1 rfl ?_
      refine x_aload_n C.1 dX3_goBy_33 2 rfl ?_
      refine x_callVv C (As := [.ref (ad 60)]) (rest := []) k0 (xw_at (N := 129) (i := k0) (by omega) (xd_L hk0)) vc_X3 (s_oneDay l D cy ad G V29 J Rr hI29 hJ hR k0 hk0) (l1 := []) (l2 := []) (List.append_nil _).symm (w2 := fun u : Nat → Nat → Int => XW cy ad u J Rr) (fun _ => List.append_nil _) rfl wm_yX3_oneDay wn_X3 wl_X3_76 wi_yX3_oneDay we_yX3_oneDay hd_yX3_oneDay rfl ⟨Nat.le_of_ble_eq_true rfl, Nat.le_of_ble_eq_true rfl⟩ (Nat.le_of_ble_eq_true rfl) ⟨Nat.le_of_ble_eq_true rfl, Nat.le_of_ble_eq_true rfl⟩ dX3_goBy_34 (fun V37 h37 => ?_)
      obtain ⟨hI37, hBc37, hFc37⟩ := h37
      replace hF := calUX_i hF hFc37 hBc37
      have hB37 := hB29.tr hBc37 (fun i k h => (h.elim (fun h => (Or.inl (⟨by omega, by omega⟩))) (fun h => (Or.inr (h)))))
      refine x_iinc C.1 (v := z28 + 1) (lv' := [(3, vI (z28 + 1)), (0, .ref (ad k0)), (1, .ref (ad 60)), (2, vI x2)]) (by omega) dX3_goBy_37 0 rfl (by decide) rfl ?_
      refine x_goto C.1 (tgt := 17) dX3_goBy_40 (by decide) ?_
      have hmu29 : (2147483648 - (z28 + 1)).toNat < (2147483648 - z28).toNat := (by omega)
      exact ih29 (z28 + 1, V37) ⟨⟨by omega, by omega⟩, hI37, hB37, ⟨nf29, Nat.lt_of_lt_of_le hmu29 (Nat.le_of_lt_succ hn29), hF⟩⟩ hmu29
