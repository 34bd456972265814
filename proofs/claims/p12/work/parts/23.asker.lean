theorem hd_yJ7_fill_53178 : yJ7_fill_53178.cls ≠ "java/lang/invoke/MethodHandle" ∧ yJ7_fill_53178.cls ≠ "java/lang/invoke/VarHandle" ∧ (parseMethodDescriptor yJ7_fill_53178.desc).map (fun d => d.parameters.length) = some 2 := by decide +kernel
theorem dX0_ofNothing_0 : decode cX0_ofNothing 0 = .ok (.aload_n 0, 1) := by decide +kernel
theorem dX0_ofNothing_1 : decode cX0_ofNothing 1 = .ok (.getfield 9, 3) := by decide +kernel
theorem dX0_ofNothing_4 : decode cX0_ofNothing 4 = .ok (.iconst 0, 1) := by decide +kernel
theorem dX0_ofNothing_5 : decode cX0_ofNothing 5 = .ok (.invokestatic 22, 3) := by decide +kernel
theorem dX0_ofNothing_8 : decode cX0_ofNothing 8 = .ok (.return_, 1) := by decide +kernel
set_option maxRecDepth 100000 in
def f_s_ofNothing (V : Nat → Nat → Int) (J : Nat → Nat → Int) (Rr : Nat → Nat → Nat) : (Nat → Nat → Int) → Prop :=
  calUX (fun i k : Nat => (70 ≤ i ∧ i ≤ 70)) V (f_s_fillA 0 V J Rr) fun V1 => rtn V1
set_option maxHeartbeats 8000000 in
set_option maxRecDepth 100000 in
theorem s_ofNothing (l : Launch) (D : va_G) (cy : Nat → ClassId) (ad : Nat → Nat) (G : Nat → Nat → Int) (V J : Nat → Nat → Int) (Rr : Nat → Nat → Nat) (hI : XI G V) (hJ : VJ J) (hR : XR Rr)  : xMv l D (xTY cy) yX0_ofNothing cX0_ofNothing 1 none 1 23 0 0 [.ref (ad 69)] (XW cy ad V J Rr) (fun u : Nat → Nat → Int => XW cy ad u J Rr) (fun u : Nat → Nat → Int => XI G u ∧ FB (fun i k : Nat => (70 ≤ i ∧ i ≤ 70)) V u ∧ (f_s_ofNothing V J Rr) u) := by
  refine xMv.mk (lv0 := [(0, .ref (ad 69))]) (by decide) rfl (Nat.le_of_ble_eq_true rfl) (fun p e s m below meth c A C hr hnm hAe => ?_)
  have C : xC2 p s m _ meth c D A s.heap 1 cX0_ofNothing RX0 (xTY cy) := C
  have hB : FB (fun i k : Nat => (70 ≤ i ∧ i ≤ 70)) V V := FB.rf _ _
  have hF := Imp.of_eq (f_s_ofNothing.eq_def V J Rr)
  refine x_aload_n C.1 dX0_ofNothing_0 0 rfl ?_
  refine x_getA C (N := 129) (i := 69) (by decide) rfl vc_X0 wx_X0 0 (by decide) wf_X0_9 (a := 70) rfl dX0_ofNothing_1 ?_
  refine x_iconst C.1 (n := 0) dX0_ofNothing_4 ?_
  refine x_callSv C (As := [.ref (ad 70), vI 0]) (rest := []) (s_fillA l D cy ad G V J Rr hI hJ hR 0 ⟨by decide, by decide⟩) (l1 := []) (l2 := []) (List.append_nil _).symm (w2 := fun u : Nat → Nat → Int => XW cy ad u J Rr) (fun _ => List.append_nil _) rfl wm_yJ7_fill_53178 wn_J7 wl_X0_22 wi_yJ7_fill_53178 hd_yJ7_fill_53178 rfl ⟨Nat.le_of_ble_eq_true rfl, Nat.le_of_ble_eq_true rfl⟩ (Nat.le_of_ble_eq_true rfl) ⟨Nat.le_of_ble_eq_true rfl, Nat.le_of_ble_eq_true rfl⟩ dX0_ofNothing_5 (fun V1 h1 => ?_)
  obtain ⟨hI1, hBc1, hFc1⟩ := h1
  replace hF := calUX_i hF hFc1 hBc1
  have hB1 := hB.tr hBc1 (fun i k h => (h))
  exact x_vret (S := (Nat → Nat → Int)) (post := (fun u : Nat → Nat → Int => XI G u ∧ FB (fun i k : Nat => (70 ≤ i ∧ i ≤ 70)) V u ∧ (f_s_ofNothing V J Rr) u)) (w1 := (fun u : Nat → Nat → Int => XW cy ad u J Rr)) C hr rfl dX0_ofNothing_8 V1 rfl ⟨hI1, hB1, hF _ rfl⟩
theorem dX0_of_0 : decode cX0_of 0 = .ok (.aload_n 0, 1) := by decide +kernel
theorem dX0_of_1 : decode cX0_of 1 = .ok (.bipush 108, 2) := by decide +kernel
theorem dX0_of_3 : decode cX0_of 3 = .ok (.iload_n 2, 1) := by decide +kernel
theorem dX0_of_4 : decode cX0_of 4 = .ok (.invokevirtual 18, 3) := by decide +kernel
theorem dX0_of_7 : decode cX0_of 7 = .ok (.aload_n 0, 1) := by decide +kernel
theorem dX0_of_8 : decode cX0_of 8 = .ok (.bipush 111, 2) := by decide +kernel
theorem dX0_of_10 : decode cX0_of 10 = .ok (.aload_n 1, 1) := by decide +kernel
theorem dX0_of_11 : decode cX0_of 11 = .ok (.getfield 28, 3) := by decide +kernel
theorem dX0_of_14 : decode cX0_of 14 = .ok (.invokevirtual 18, 3) := by decide +kernel
theorem dX0_of_17 : decode cX0_of 17 = .ok (.aload_n 0, 1) := by decide +kernel
theorem dX0_of_18 : decode cX0_of 18 = .ok (.bipush 102, 2) := by decide +kernel
theorem dX0_of_20 : decode cX0_of 20 = .ok (.aload_n 1, 1) := by decide +kernel
theorem dX0_of_21 : decode cX0_of 21 = .ok (.getfield 34, 3) := by decide +kernel
theorem dX0_of_24 : decode cX0_of 24 = .ok (.invokevirtual 18, 3) := by decide +kernel
theorem dX0_of_27 : decode cX0_of 27 = .ok (.aload_n 0, 1) := by decide +kernel
theorem dX0_of_28 : decode cX0_of 28 = .ok (.bipush 115, 2) := by decide +kernel
theorem dX0_of_30 : decode cX0_of 30 = .ok (.aload_n 1, 1) := by decide +kernel
theorem dX0_of_31 : decode cX0_of 31 = .ok (.getfield 37, 3) := by decide +kernel
theorem dX0_of_34 : decode cX0_of 34 = .ok (.bipush 6, 2) := by decide +kernel
theorem dX0_of_36 : decode cX0_of 36 = .ok (.iaload, 1) := by decide +kernel
theorem dX0_of_37 : decode cX0_of 37 = .ok (.invokevirtual 18, 3) := by decide +kernel
theorem dX0_of_40 : decode cX0_of 40 = .ok (.aload_n 0, 1) := by decide +kernel
theorem dX0_of_41 : decode cX0_of 41 = .ok (.bipush 121, 2) := by decide +kernel
theorem dX0_of_43 : decode cX0_of 43 = .ok (.aload_n 1, 1) := by decide +kernel
theorem dX0_of_44 : decode cX0_of 44 = .ok (.getfield 40, 3) := by decide +kernel
theorem dX0_of_47 : decode cX0_of 47 = .ok (.invokevirtual 18, 3) := by decide +kernel
theorem dX0_of_50 : decode cX0_of 50 = .ok (.aload_n 0, 1) := by decide +kernel
theorem dX0_of_51 : decode cX0_of 51 = .ok (.bipush 122, 2) := by decide +kernel
theorem dX0_of_53 : decode cX0_of 53 = .ok (.aload_n 1, 1) := by decide +kernel
theorem dX0_of_54 : decode cX0_of 54 = .ok (.getfield 43, 3) := by decide +kernel
theorem dX0_of_57 : decode cX0_of 57 = .ok (.invokevirtual 18, 3) := by decide +kernel
theorem dX0_of_60 : decode cX0_of 60 = .ok (.aload_n 0, 1) := by decide +kernel
theorem dX0_of_61 : decode cX0_of 61 = .ok (.bipush 97, 2) := by decide +kernel
theorem dX0_of_63 : decode cX0_of 63 = .ok (.aload_n 1, 1) := by decide +kernel
theorem dX0_of_64 : decode cX0_of 64 = .ok (.getfield 46, 3) := by decide +kernel
theorem dX0_of_67 : decode cX0_of 67 = .ok (.ifCond .eq 20, 3) := by decide +kernel
theorem dX0_of_70 : decode cX0_of 70 = .ok (.aload_n 1, 1) := by decide +kernel
theorem dX0_of_71 : decode cX0_of 71 = .ok (.getfield 50, 3) := by decide +kernel
theorem dX0_of_74 : decode cX0_of 74 = .ok (.iconst (-1), 1) := by decide +kernel
theorem dX0_of_75 : decode cX0_of 75 = .ok (.if_icmp .eq 12, 3) := by decide +kernel
theorem dX0_of_78 : decode cX0_of 78 = .ok (.iload_n 3, 1) := by decide +kernel
theorem dX0_of_79 : decode cX0_of 79 = .ok (.aload_n 1, 1) := by decide +kernel
theorem dX0_of_80 : decode cX0_of 80 = .ok (.getfield 50, 3) := by decide +kernel
theorem dX0_of_83 : decode cX0_of 83 = .ok (.isub, 1) := by decide +kernel
theorem dX0_of_84 : decode cX0_of 84 = .ok (.goto 5, 3) := by decide +kernel
theorem dX0_of_87 : decode cX0_of 87 = .ok (.bipush 99, 2) := by decide +kernel
theorem dX0_of_89 : decode cX0_of 89 = .ok (.invokevirtual 18, 3) := by decide +kernel
theorem dX0_of_92 : decode cX0_of 92 = .ok (.return_, 1) := by decide +kernel
set_option maxRecDepth 100000 in
def f_s_of (k1 : Nat) (x2 : Int) (x3 : Int) (V : Nat → Nat → Int) (J : Nat → Nat → Int) (Rr : Nat → Nat → Nat) : (Nat → Nat → Int) → Prop :=
  calUX (fun i k : Nat => (69 ≤ i ∧ i ≤ 71)) V (f_s_putA 108 x2 V J Rr) fun V1 => rdb (V1 k1 1) fun z2 => calUX (fun i k : Nat => (69 ≤ i ∧ i ≤ 71)) V1 (f_s_putA 111 z2 V1 J Rr) fun V3 => rdb (V3 k1 2) fun z4 => calUX (fun i k : Nat => (69 ≤ i ∧ i ≤ 71)) V3 (f_s_putA 102 z4 V3 J Rr) fun V5 => rdb (V5 (k1 + 1) 6) fun z6 => calUX (fun i k : Nat => (69 ≤ i ∧ i ≤ 71)) V5 (f_s_putA 115 z6 V5 J Rr) fun V7 => rdb (V7 k1 4) fun z8 => calUX (fun i k : Nat => (69 ≤ i ∧ i ≤ 71)) V7 (f_s_putA 121 z8 V7 J Rr) fun V9 => rdb (V9 k1 5) fun z10 => calUX (fun i k : Nat => (69 ≤ i ∧ i ≤ 71)) V9 (f_s_putA 122 z10 V9 J Rr) fun V11 => rdb (V11 k1 6) fun z12 => fct (0 ≤ z12 ∧ z12 ≤ 1) <| jnk (fun (z16 : Int) => calUX (fun i k : Nat => (69 ≤ i ∧ i ≤ 71)) V11 (f_s_putA 97 z16 V11 J Rr) fun V18 => rtn V18) fun jf17 => (if z12 = 0 then jf17 99 else rdb (V11 k1 7) fun z20 => (if z20 = (-1) then jf17 99 else rdb (wr (x3 - z20)) fun z22 => jf17 z22))
set_option maxHeartbeats 8000000 in
set_option maxRecDepth 100000 in
theorem s_of (l : Launch) (D : va_G) (cy : Nat → ClassId) (ad : Nat → Nat) (G : Nat → Nat → Int) (V J : Nat → Nat → Int) (Rr : Nat → Nat → Nat) (hI : XI G V) (hJ : VJ J) (hR : XR Rr) (k1 : Nat) (hk1 : isPl k1) (x2 : Int) (bx2 : -2147483648 ≤ x2 ∧ x2 ≤ 2147483647) (x3 : Int) (bx3 : -2147483648 ≤ x3 ∧ x3 ≤ 2147483647) : xMv l D (xTY cy) yX0_of cX0_of 4 none 1 23 0 0 [.ref (ad 69), .ref (ad k1), vI x2, vI x3] (XW cy ad V J Rr) (fun u : Nat → Nat → Int => XW cy ad u J Rr) (fun u : Nat → Nat → Int => XI G u ∧ FB (fun i k : Nat => (69 ≤ i ∧ i ≤ 71)) V u ∧ (f_s_of k1 x2 x3 V J Rr) u) := by
  refine xMv.mk (lv0 := [(0, .ref (ad 69)), (1, .ref (ad k1)), (2, vI x2), (3, vI x3)]) (by decide) rfl (Nat.le_of_ble_eq_true rfl) (fun p e s m below meth c A C hr hnm hAe => ?_)
  have C : xC2 p s m _ meth c D A s.heap 4 cX0_of RX0 (xTY cy) := C
  have hB : FB (fun i k : Nat => (69 ≤ i ∧ i ≤ 71)) V V := FB.rf _ _
  have hF := Imp.of_eq (f_s_of.eq_def k1 x2 x3 V J Rr)
  refine x_aload_n C.1 dX0_of_0 0 rfl ?_
  refine x_bipush C.1 (n := 108) dX0_of_1 ?_
  refine x_iload_n C.1 dX0_of_3 2 rfl ?_
  refine x_callVv C (As := [vI 108, vI x2]) (rest := []) 69 (xw_at (N := 129) (i := 69) (by decide) rfl) vc_X0 (s_putA l D cy ad G V J Rr hI hJ hR 108 ⟨by decide, by decide⟩ x2 ⟨by omega, by omega⟩) (l1 := []) (l2 := []) (List.append_nil _).symm (w2 := fun u : Nat → Nat → Int => XW cy ad u J Rr) (fun _ => List.append_nil _) rfl wm_yX0_put wn_X0 wl_X0_18 wi_yX0_put we_yX0_put hd_yX0_put rfl ⟨Nat.le_of_ble_eq_true rfl, Nat.le_of_ble_eq_true rfl⟩ (Nat.le_of_ble_eq_true rfl) ⟨Nat.le_of_ble_eq_true rfl, Nat.le_of_ble_eq_true rfl⟩ dX0_of_4 (fun V1 h1 => ?_)
  obtain ⟨hI1, hBc1, hFc1⟩ := h1
  replace hF := calUX_i hF hFc1 hBc1
  have hB1 := hB.tr hBc1 (fun i k h => (h))
  refine x_aload_n C.1 dX0_of_7 0 rfl ?_
  refine x_bipush C.1 (n := 111) dX0_of_8 ?_
  refine x_aload_n C.1 dX0_of_10 1 rfl ?_
  obtain ⟨z2, ez2, bz2⟩ := hI1.rd k1 1 (x := -2147483648) (y := 2147483647) (rg_P hk1 1)
  replace hF := hF.to (rdb_e (z := z2) ez2)
  refine x_getI C (N := 129) (i := k1) (Nat.lt_of_succ_lt hk1.1) hk1.2.1 vc_X5 wx_X5 1 (by decide) wf_X0_28 rfl dX0_of_11 (a := z2) ez2 ?_
  refine x_callVv C (As := [vI 111, vI z2]) (rest := []) 69 (xw_at (N := 129) (i := 69) (by decide) rfl) vc_X0 (s_putA l D cy ad G V1 J Rr hI1 hJ hR 111 ⟨by decide, by decide⟩ z2 ⟨by omega, by omega⟩) (l1 := []) (l2 := []) (List.append_nil _).symm (w2 := fun u : Nat → Nat → Int => XW cy ad u J Rr) (fun _ => List.append_nil _) rfl wm_yX0_put wn_X0 wl_X0_18 wi_yX0_put we_yX0_put hd_yX0_put rfl ⟨Nat.le_of_ble_eq_true rfl, Nat.le_of_ble_eq_true rfl⟩ (Nat.le_of_ble_eq_true rfl) ⟨Nat.le_of_ble_eq_true rfl, Nat.le_of_ble_eq_true rfl⟩ dX0_of_14 (fun V3 h3 => ?_)
  obtain ⟨hI3, hBc3, hFc3⟩ := h3
  replace hF := calUX_i hF hFc3 hBc3
  have hB3 := hB1.tr hBc3 (fun i k h => (h))
  refine x_aload_n C.1 dX0_of_17 0 rfl ?_
  refine x_bipush C.1 (n := 102) dX0_of_18 ?_
  refine x_aload_n C.1 dX0_of_20 1 rfl ?_
  obtain ⟨z4, ez4, bz4⟩ := hI3.rd k1 2 (x := -2147483648) (y := 2147483647) (rg_P hk1 2)
  replace hF := hF.to (rdb_e (z := z4) ez4)
  refine x_getI C (N := 129) (i := k1) (Nat.lt_of_succ_lt hk1.1) hk1.2.1 vc_X5 wx_X5 2 (by decide) wf_X0_34 rfl dX0_of_21 (a := z4) ez4 ?_
  refine x_callVv C (As := [vI 102, vI z4]) (rest := []) 69 (xw_at (N := 129) (i := 69) (by decide) rfl) vc_X0 (s_putA l D cy ad G V3 J Rr hI3 hJ hR 102 ⟨by decide, by decide⟩ z4 ⟨by omega, by omega⟩) (l1 := []) (l2 := []) (List.append_nil _).symm (w2 := fun u : Nat → Nat → Int => XW cy ad u J Rr) (fun _ => List.append_nil _) rfl wm_yX0_put wn_X0 wl_X0_18 wi_yX0_put we_yX0_put hd_yX0_put rfl ⟨Nat.le_of_ble_eq_true rfl, Nat.le_of_ble_eq_true rfl⟩ (Nat.le_of_ble_eq_true rfl) ⟨Nat.le_of_ble_eq_true rfl, Nat.le_of_ble_eq_true rfl⟩ dX0_of_24 (fun V5 h5 => ?_)
  obtain ⟨hI5, hBc5, hFc5⟩ := h5
  replace hF := calUX_i hF hFc5 hBc5
  have hB5 := hB3.tr hBc5 (fun i k h => (h))
  refine x_aload_n C.1 dX0_of_27 0 rfl ?_
  refine x_bipush C.1 (n := 115) dX0_of_28 ?_
  refine x_aload_n C.1 dX0_of_30 1 rfl ?_
  refine x_getA C (N := 129) (i := k1) (Nat.lt_of_succ_lt hk1.1) hk1.2.1 vc_X5 wx_X5 8 (by decide) wf_X0_37 (a := k1 + 1) rfl dX0_of_31 ?_
  refine x_bipush C.1 (n := 6) dX0_of_34 ?_
  obtain ⟨z6, ez6, bz6⟩ := hI5.rd (k1 + 1) 6 (x := -2147483648) (y := 2147483647) (rg_K hk1 _)
  replace hF := hF.to (rdb_e (z := z6) ez6)
  refine x_iald C (N := 129) (i := k1 + 1) (q := 6) hk1.1 hk1.2.2 (by decide) (by decide) dX0_of_36 (a := z6) ez6 ?_
  refine x_callVv C (As := [vI 115, vI z6]) (rest := []) 69 (xw_at (N := 129) (i := 69) (by decide) rfl) vc_X0 (s_putA l D cy ad G V5 J Rr hI5 hJ hR 115 ⟨by decide, by decide⟩ z6 ⟨by omega, by omega⟩) (l1 := []) (l2 := []) (List.append_nil _).symm (w2 := fun u : Nat → Nat → Int => XW cy ad u J Rr) (fun _ => List.append_nil _) rfl wm_yX0_put wn_X0 wl_X0_18 wi_yX0_put we_yX0_put hd_yX0_put rfl ⟨Nat.le_of_ble_eq_true rfl, Nat.le_of_ble_eq_true rfl⟩ (Nat.le_of_ble_eq_true rfl) ⟨Nat.le_of_ble_eq_true rfl, Nat.le_of_ble_eq_true rfl⟩ dX0_of_37 (fun V7 h7 => ?_)
  obtain ⟨hI7, hBc7, hFc7⟩ := h7
  replace hF := calUX_i hF hFc7 hBc7
  have hB7 := hB5.tr hBc7 (fun i k h => (h))
  refine x_aload_n C.1 dX0_of_40 0 rfl ?_
  refine x_bipush C.1 (n := 121) dX0_of_41 ?_
  refine x_aload_n C.1 dX0_of_43 1 rfl ?_
  obtain ⟨z8, ez8, bz8⟩ := hI7.rd k1 4 (x := -2147483648) (y := 2147483647) (rg_P hk1 4)
  replace hF := hF.to (rdb_e (z := z8) ez8)
  refine x_getI C (N := 129) (i := k1) (Nat.lt_of_succ_lt hk1.1) hk1.2.1 vc_X5 wx_X5 4 (by decide) wf_X0_40 rfl dX0_of_44 (a := z8) ez8 ?_
  refine x_callVv C (As := [vI 121, vI z8]) (rest := []) 69 (xw_at (N := 129) (i := 69) (by decide) rfl) vc_X0 (s_putA l D cy ad G V7 J Rr hI7 hJ hR 121 ⟨by decide, by decide⟩ z8 ⟨by omega, by omega⟩) (l1 := []) (l2 := []) (List.append_nil _).symm (w2 := fun u : Nat → Nat → Int => XW cy ad u J Rr) (fun _ => List.append_nil _) rfl wm_yX0_put wn_X0 wl_X0_18 wi_yX0_put we_yX0_put hd_yX0_put rfl ⟨Nat.le_of_ble_eq_true rfl, Nat.le_of_ble_eq_true rfl⟩ (Nat.le_of_ble_eq_true rfl) ⟨Nat.le_of_ble_eq_true rfl, Nat.le_of_ble_eq_true rfl⟩ dX0_of_47 (fun V9 h9 => ?_)
  obtain ⟨hI9, hBc9, hFc9⟩ := h9
  replace hF := calUX_i hF hFc9 hBc9
  have hB9 := hB7.tr hBc9 (fun i k h => (h))
  refine x_aload_n C.1 dX0_of_50 0 rfl ?_
  refine x_bipush C.1 (n := 122) dX0_of_51 ?_
  refine x_aload_n C.1 dX0_of_53 1 rfl ?_
  obtain ⟨z10, ez10, bz10⟩ := hI9.rd k1 5 (x := -2147483648) (y := 2147483647) (rg_P hk1 5)
  replace hF := hF.to (rdb_e (z := z10) ez10)
  refine x_getI C (N := 129) (i := k1) (Nat.lt_of_succ_lt hk1.1) hk1.2.1 vc_X5 wx_X5 5 (by decide) wf_X0_43 rfl dX0_of_54 (a := z10) ez10 ?_
  refine x_callVv C (As := [vI 122, vI z10]) (rest := []) 69 (xw_at (N := 129) (i := 69) (by decide) rfl) vc_X0 (s_putA l D cy ad G V9 J Rr hI9 hJ hR 122 ⟨by decide, by decide⟩ z10 ⟨by omega, by omega⟩) (l1 := []) (l2 := []) (List.append_nil _).symm (w2 := fun u : Nat → Nat → Int => XW cy ad u J Rr) (fun _ => List.append_nil _) rfl wm_yX0_put wn_X0 wl_X0_18 wi_yX0_put we_yX0_put hd_yX0_put rfl ⟨Nat.le_of_ble_eq_true rfl, Nat.le_of_ble_eq_true rfl⟩ (Nat.le_of_ble_eq_true rfl) ⟨Nat.le_of_ble_eq_true rfl, Nat.le_of_ble_eq_true rfl⟩ dX0_of_57 (fun V11 h11 => ?_)
  obtain ⟨hI11, hBc11, hFc11⟩ := h11
  replace hF := calUX_i hF hFc11 hBc11
  have hB11 := hB9.tr hBc11 (fun i k h => (h))
  refine x_aload_n C.1 dX0_of_60 0 rfl ?_
  refine x_bipush C.1 (n := 97) dX0_of_61 ?_
  refine x_aload_n C.1 dX0_of_63 1 rfl ?_
  obtain ⟨z12, ez12, bz12⟩ := hI11.rd k1 6 (x := 0) (y := 1) (rg_P hk1 6)
  replace hF := hF.to (rdb_e (z := z12) ez12)
  replace hF := hF.fc bz12
  refine x_getI C (N := 129) (i := k1) (Nat.lt_of_succ_lt hk1.1) hk1.2.1 vc_X5 wx_X5 6 (by decide) wf_X0_46 rfl dX0_of_64 (a := z12) ez12 ?_
  obtain ⟨jf17, hjf17, hF⟩ := jn_ex hF
  refine x_join (I := fun z16 : Int => (-2147483648 ≤ z16 ∧ z16 ≤ 2147483647) ∧ Imp (jf17 z16) (f_s_of k1 x2 x3 V J Rr)) (wsf := fun z16 : Int => XW cy ad V11 J Rr) (lvf := fun z16 : Int => [(0, .ref (ad 69)), (1, .ref (ad k1)), (2, vI x2), (3, vI x3)]) (stf := fun z16 : Int => [vI z16, vI 97, .ref (ad 69)]) 89 (fun z16 hI17x => ?_) (fun jn17 => ?_)
  · obtain ⟨bz16, hF⟩ := hI17x
    try dsimp only
    replace hF := hF.to (jn_s1 hjf17)
    refine x_callVv C (As := [vI 97, vI z16]) (rest := []) 69 (xw_at (N := 129) (i := 69) (by decide) rfl) vc_X0 (s_putA l D cy ad G V11 J Rr hI11 hJ hR 97 ⟨by decide, by decide⟩ z16 ⟨by omega, by omega⟩) (l1 := []) (l2 := []) (List.append_nil _).symm (w2 := fun u : Nat → Nat → Int => XW cy ad u J Rr) (fun _ => List.append_nil _) rfl wm_yX0_put wn_X0 wl_X0_18 wi_yX0_put we_yX0_put hd_yX0_put rfl ⟨Nat.le_of_ble_eq_true rfl, Nat.le_of_ble_eq_true rfl⟩ (Nat.le_of_ble_eq_true rfl) ⟨Nat.le_of_ble_eq_true rfl, Nat.le_of_ble_eq_true rfl⟩ dX0_of_89 (fun V18 h18 => ?_)
    obtain ⟨hI18, hBc18, hFc18⟩ := h18
    replace hF := calUX_i hF hFc18 hBc18
    have hB18 := hB11.tr hBc18 (fun i k h => (h))
    exact x_vret (S := (Nat → Nat → Int)) (post := (fun u : Nat → Nat → Int => XI G u ∧ FB (fun i k : Nat => (69 ≤ i ∧ i ≤ 71)) V u ∧ (f_s_of k1 x2 x3 V J Rr) u)) (w1 := (fun u : Nat → Nat → Int => XW cy ad u J Rr)) C hr rfl dX0_of_92 V18 rfl ⟨hI18, hB18, hF _ rfl⟩
  · refine x_if_eq C.1 (tgt := 87) dX0_of_67 (by decide) (by omega) (fun hc19 => ?_) (fun hc19 => ?_)
    · replace hF := hF.to (if_pos hc19)
      refine x_bipush C.1 (n := 99) dX0_of_87 ?_
      exact jn17 99 ⟨⟨by decide, by decide⟩, hF⟩
    · replace hF := hF.to (if_neg hc19)
      refine x_aload_n C.1 dX0_of_70 1 rfl ?_
      obtain ⟨z20, ez20, bz20⟩ := hI11.rd k1 7 (x := -2147483648) (y := 2147483647) (rg_P hk1 7)
      replace hF := hF.to (rdb_e (z := z20) ez20)
      refine x_getI C (N := 129) (i := k1) (Nat.lt_of_succ_lt hk1.1) hk1.2.1 vc_X5 wx_X5 7 (by decide) wf_X0_50 rfl dX0_of_71 (a := z20) ez20 ?_
      refine x_iconst C.1 (n := -1) dX0_of_74 ?_
      refine x_icmp_eq C.1 (tgt := 87) dX0_of_75 (by decide) (by omega) (by decide) (fun hc21 => ?_) (fun hc21 => ?_)
      · replace hF := hF.to (if_pos hc21)
        refine x_bipush C.1 (n := 99) dX0_of_87 ?_
        exact jn17 99 ⟨⟨by decide, by decide⟩, hF⟩
      · replace hF := hF.to (if_neg hc21)
        refine x_iload_n C.1 dX0_of_78 3 rfl ?_
        refine x_aload_n C.1 dX0_of_79 1 rfl ?_
        refine x_getI C (N := 129) (i := k1) (Nat.lt_of_succ_lt hk1.1) hk1.2.1 vc_X5 wx_X5 7 (by decide) wf_X0_50 rfl dX0_of_80 (a := z20) ez20 ?_
        refine x_isub C.1 (v := x3 - z20) (by omega) dX0_of_83 ?_
        refine x_wrapg ?_
        intro z22 bz22 ew22
        replace hF := hF.to (rdb_e (z := z22) ew22.symm)
        refine x_goto C.1 (tgt := 89) dX0_of_84 (by decide) ?_
        exact jn17 z22 ⟨⟨by omega, by omega⟩, hF⟩
theorem dX0_by_0 : decode cX0_by 0 = .ok (.aload_n 0, 1) := by decide +kernel
theorem dX0_by_1 : decode cX0_by 1 = .ok (.bipush 112, 2) := by decide +kernel
theorem dX0_by_3 : decode cX0_by 3 = .ok (.iload_n 1, 1) := by decide +kernel
theorem dX0_by_4 : decode cX0_by 4 = .ok (.invokevirtual 18, 3) := by decide +kernel
theorem dX0_by_7 : decode cX0_by 7 = .ok (.aload_n 0, 1) := by decide +kernel
theorem dX0_by_8 : decode cX0_by 8 = .ok (.bipush 116, 2) := by decide +kernel
theorem dX0_by_10 : decode cX0_by 10 = .ok (.iload_n 2, 1) := by decide +kernel
theorem dX0_by_11 : decode cX0_by 11 = .ok (.invokevirtual 18, 3) := by decide +kernel
theorem dX0_by_14 : decode cX0_by 14 = .ok (.aload_n 0, 1) := by decide +kernel
theorem dX0_by_15 : decode cX0_by 15 = .ok (.bipush 113, 2) := by decide +kernel
theorem dX0_by_17 : decode cX0_by 17 = .ok (.iload_n 3, 1) := by decide +kernel
theorem dX0_by_18 : decode cX0_by 18 = .ok (.invokevirtual 18, 3) := by decide +kernel
theorem dX0_by_21 : decode cX0_by 21 = .ok (.return_, 1) := by decide +kernel
set_option maxRecDepth 100000 in
def f_s_by (x1 : Int) (x2 : Int) (x3 : Int) (V : Nat → Nat → Int) (J : Nat → Nat → Int) (Rr : Nat → Nat → Nat) : (Nat → Nat → Int) → Prop :=
  calUX (fun i k : Nat => (69 ≤ i ∧ i ≤ 71)) V (f_s_putA 112 x1 V J Rr) fun V1 => calUX (fun i k : Nat => (69 ≤ i ∧ i ≤ 71)) V1 (f_s_putA 116 x2 V1 J Rr) fun V2 => calUX (fun i k : Nat => (69 ≤ i ∧ i ≤ 71)) V2 (f_s_putA 113 x3 V2 J Rr) fun V3 => rtn V3
set_option maxHeartbeats 8000000 in
set_option maxRecDepth 100000 in
theorem s_by (l : Launch) (D : va_G) (cy : Nat → ClassId) (ad : Nat → Nat) (G : Nat → Nat → Int) (V J : Nat → Nat → Int) (Rr : Nat → Nat → Nat) (hI : XI G V) (hJ : VJ J) (hR : XR Rr) (x1 : Int) (bx1 : -2147483648 ≤ x1 ∧ x1 ≤ 2147483647) (x2 : Int) (bx2 : -2147483648 ≤ x2 ∧ x2 ≤ 2147483647) (x3 : Int) (bx3 : -2147483648 ≤ x3 ∧ x3 ≤ 2147483647) : xMv l D (xTY cy) yX0_by cX0_by 4 none 1 23 0 0 [.ref (ad 69), vI x1, vI x2, vI x3] (XW cy ad V J Rr) (fun u : Nat → Nat → Int => XW cy ad u J Rr) (fun u : Nat → Nat → Int => XI G u ∧ FB (fun i k : Nat => (69 ≤ i ∧ i ≤ 71)) V u ∧ (f_s_by x1 x2 x3 V J Rr) u) := by
  refine xMv.mk (lv0 := [(0, .ref (ad 69)), (1, vI x1), (2, vI x2), (3, vI x3)]) (by decide) rfl (Nat.le_of_ble_eq_true rfl) (fun p e s m below meth c A C hr hnm hAe => ?_)
  have C : xC2 p s m _ meth c D A s.heap 4 cX0_by RX0 (xTY cy) := C
  have hB : FB (fun i k : Nat => (69 ≤ i ∧ i ≤ 71)) V V := FB.rf _ _
  have hF := Imp.of_eq (f_s_by.eq_def x1 x2 x3 V J Rr)
  refine x_aload_n C.1 dX0_by_0 0 rfl ?_
  refine x_bipush C.1 (n := 112) dX0_by_1 ?_
  refine x_iload_n C.1 dX0_by_3 1 rfl ?_
  refine x_callVv C (As := [vI 112, vI x1]) (rest := []) 69 (xw_at (N := 129) (i := 69) (by decide) rfl) vc_X0 (s_putA l D cy ad G V J Rr hI hJ hR 112 ⟨by decide, by decide⟩ x1 ⟨by omega, by omega⟩) (l1 := []) (l2 := []) (List.append_nil _).symm (w2 := fun u : Nat → Nat → Int => XW cy ad u J Rr) (fun _ => List.append_nil _) rfl wm_yX0_put wn_X0 wl_X0_18 wi_yX0_put we_yX0_put hd_yX0_put rfl ⟨Nat.le_of_ble_eq_true rfl, Nat.le_of_ble_eq_true rfl⟩ (Nat.le_of_ble_eq_true rfl) ⟨Nat.le_of_ble_eq_true rfl, Nat.le_of_ble_eq_true rfl⟩ dX0_by_4 (fun V1 h1 => ?_)
  obtain ⟨hI1, hBc1, hFc1⟩ := h1
  replace hF := calUX_i hF hFc1 hBc1
  have hB1 := hB.tr hBc1 (fun i k h => (h))
  refine x_aload_n C.1 dX0_by_7 0 rfl ?_
  refine x_bipush C.1 (n := 116) dX0_by_8 ?_
  refine x_iload_n C.1 dX0_by_10 2 rfl ?_
  refine x_callVv C (As := [vI 116, vI x2]) (rest := []) 69 (xw_at (N := 129) (i := 69) (by decide) rfl) vc_X0 (s_putA l D cy ad G V1 J Rr hI1 hJ hR 116 ⟨by decide, by decide⟩ x2 ⟨by omega, by omega⟩) (l1 := []) (l2 := []) (List.append_nil _).symm (w2 := fun u : Nat → Nat → Int => XW cy ad u J Rr) (fun _ => List.append_nil _) rfl wm_yX0_put wn_X0 wl_X0_18 wi_yX0_put we_yX0_put hd_yX0_put rfl ⟨Nat.le_of_ble_eq_true rfl, Nat.le_of_ble_eq_true rfl⟩ (Nat.le_of_ble_eq_true rfl) ⟨Nat.le_of_ble_eq_true rfl, Nat.le_of_ble_eq_true rfl⟩ dX0_by_11 (fun V2 h2 => ?_)
  obtain ⟨hI2, hBc2, hFc2⟩ := h2
  replace hF := calUX_i hF hFc2 hBc2
  have hB2 := hB1.tr hBc2 (fun i k h => (h))
  refine x_aload_n C.1 dX0_by_14 0 rfl ?_
  refine x_bipush C.1 (n := 113) dX0_by_15 ?_
  refine x_iload_n C.1 dX0_by_17 3 rfl ?_
  refine x_callVv C (As := [vI 113, vI x3]) (rest := []) 69 (xw_at (N := 129) (i := 69) (by decide) rfl) vc_X0 (s_putA l D cy ad G V2 J Rr hI2 hJ hR 113 ⟨by decide, by decide⟩ x3 ⟨by omega, by omega⟩) (l1 := []) (l2 := []) (List.append_nil _).symm (w2 := fun u : Nat → Nat → Int => XW cy ad u J Rr) (fun _ => List.append_nil _) rfl wm_yX0_put wn_X0 wl_X0_18 wi_yX0_put we_yX0_put hd_yX0_put rfl ⟨Nat.le_of_ble_eq_true rfl, Nat.le_of_ble_eq_true rfl⟩ (Nat.le_of_ble_eq_true rfl) ⟨Nat.le_of_ble_eq_true rfl, Nat.le_of_ble_eq_true rfl⟩ dX0_by_18 (fun V3 h3 => ?_)
  obtain ⟨hI3, hBc3, hFc3⟩ := h3
  replace hF := calUX_i hF hFc3 hBc3
  have hB3 := hB2.tr hBc3 (fun i k h => (h))
  exact x_vret (S := (Nat → Nat → Int)) (post := (fun u : Nat → Nat → Int => XI G u ∧ FB (fun i k : Nat => (69 ≤ i ∧ i ≤ 71)) V u ∧ (f_s_by x1 x2 x3 V J Rr) u)) (w1 := (fun u : Nat → Nat → Int => XW cy ad u J Rr)) C hr rfl dX0_by_21 V3 rfl ⟨hI3, hB3, hF _ rfl⟩
theorem hd_yX0_by : yX0_by.cls ≠ "java/lang/invoke/MethodHandle" ∧ yX0_by.cls ≠ "java/lang/invoke/VarHandle" ∧ (parseMethodDescriptor yX0_by.desc).map (fun d => d.parameters.length) = some 3 := by decide +kernel
theorem dX0_byNobody_0 : decode cX0_byNobody 0 = .ok (.aload_n 0, 1) := by decide +kernel
theorem dX0_byNobody_1 : decode cX0_byNobody 1 = .ok (.iconst 0, 1) := by decide +kernel
theorem dX0_byNobody_2 : decode cX0_byNobody 2 = .ok (.iconst 0, 1) := by decide +kernel
theorem dX0_byNobody_3 : decode cX0_byNobody 3 = .ok (.iconst 0, 1) := by decide +kernel
theorem dX0_byNobody_4 : decode cX0_byNobody 4 = .ok (.invokevirtual 53, 3) := by decide +kernel
theorem dX0_byNobody_7 : decode cX0_byNobody 7 = .ok (.return_, 1) := by decide +kernel
set_option maxRecDepth 100000 in
def f_s_byNobody (V : Nat → Nat → Int) (J : Nat → Nat → Int) (Rr : Nat → Nat → Nat) : (Nat → Nat → Int) → Prop :=
  calUX (fun i k : Nat => (69 ≤ i ∧ i ≤ 71)) V (f_s_by 0 0 0 V J Rr) fun V1 => rtn V1
set_option maxHeartbeats 8000000 in
set_option maxRecDepth 100000 in
theorem s_byNobody (l : Launch) (D : va_G) (cy : Nat → ClassId) (ad : Nat → Nat) (G : Nat → Nat → Int) (V J : Nat → Nat → Int) (Rr : Nat → Nat → Nat) (hI : XI G V) (hJ : VJ J) (hR : XR Rr)  : xMv l D (xTY cy) yX0_byNobody cX0_byNobody 1 none 2 46 0 0 [.ref (ad 69)] (XW cy ad V J Rr) (fun u : Nat → Nat → Int => XW cy ad u J Rr) (fun u : Nat → Nat → Int => XI G u ∧ FB (fun i k : Nat => (69 ≤ i ∧ i ≤ 71)) V u ∧ (f_s_byNobody V J Rr) u) := by
  refine xMv.mk (lv0 := [(0, .ref (ad 69))]) (by decide) rfl (Nat.le_of_ble_eq_true rfl) (fun p e s m below meth c A C hr hnm hAe => ?_)
  have C : xC2 p s m _ meth c D A s.heap 1 cX0_byNobody RX0 (xTY cy) := C
  have hB : FB (fun i k : Nat => (69 ≤ i ∧ i ≤ 71)) V V := FB.rf _ _
  have hF := Imp.of_eq (f_s_byNobody.eq_def V J Rr)
  refine x_aload_n C.1 dX0_byNobody_0 0 rfl ?_
  refine x_iconst C.1 (n := 0) dX0_byNobody_1 ?_
  refine x_iconst C.1 (n := 0) dX0_byNobody_2 ?_
  refine x_iconst C.1 (n := 0) dX0_byNobody_3 ?_
  refine x_callVv C (As := [vI 0, vI 0, vI 0]) (rest := []) 69 (xw_at (N := 129) (i := 69) (by decide) rfl) vc_X0 (s_by l D cy ad G V J Rr hI hJ hR 0 ⟨by decide, by decide⟩ 0 ⟨by decide, by decide⟩ 0 ⟨by decide, by decide⟩) (l1 := []) (l2 := []) (List.append_nil _).symm (w2 := fun u : Nat → Nat → Int => XW cy ad u J Rr) (fun _ => List.append_nil _) rfl wm_yX0_by wn_X0 wl_X0_53 wi_yX0_by we_yX0_by hd_yX0_by rfl ⟨Nat.le_of_ble_eq_true rfl, Nat.le_of_ble_eq_true rfl⟩ (Nat.le_of_ble_eq_true rfl) ⟨Nat.le_of_ble_eq_true rfl, Nat.le_of_ble_eq_true rfl⟩ dX0_byNobody_4 (fun V1 h1 => ?_)
  obtain ⟨hI1, hBc1, hFc1⟩ := h1
  replace hF := calUX_i hF hFc1 hBc1
  have hB1 := hB.tr hBc1 (fun i k h => (h))
  exact x_vret (S := (Nat → Nat → Int)) (post := (fun u : Nat → Nat → Int => XI G u ∧ FB (fun i k : Nat => (69 ≤ i ∧ i ≤ 71)) V u ∧ (f_s_byNobody V J Rr) u)) (w1 := (fun u : Nat → Nat → Int => XW cy ad u J Rr)) C hr rfl dX0_byNobody_7 V1 rfl ⟨hI1, hB1, hF _ rfl⟩
theorem dX0_push_0 : decode cX0_push 0 = .ok (.aload_n 0, 1) := by decide +kernel
theorem dX0_push_1 : decode cX0_push 1 = .ok (.getfield 84, 3) := by decide +kernel
theorem dX0_push_4 : decode cX0_push 4 = .ok (.ifCond .lt 32, 3) := by decide +kernel
theorem dX0_push_7 : decode cX0_push 7 = .ok (.aload_n 0, 1) := by decide +kernel
theorem dX0_push_8 : decode cX0_push 8 = .ok (.getfield 84, 3) := by decide +kernel
theorem dX0_push_11 : decode cX0_push 11 = .ok (.bipush 40, 2) := by decide +kernel
theorem dX0_push_13 : decode cX0_push 13 = .ok (.if_icmp .ge 23, 3) := by decide +kernel
theorem dX0_push_16 : decode cX0_push 16 = .ok (.aload_n 0, 1) := by decide +kernel
theorem dX0_push_17 : decode cX0_push 17 = .ok (.getfield 15, 3) := by decide +kernel
theorem dX0_push_20 : decode cX0_push 20 = .ok (.aload_n 0, 1) := by decide +kernel
theorem dX0_push_21 : decode cX0_push 21 = .ok (.getfield 84, 3) := by decide +kernel
theorem dX0_push_24 : decode cX0_push 24 = .ok (.iload_n 1, 1) := by decide +kernel
theorem dX0_push_25 : decode cX0_push 25 = .ok (.iastore, 1) := by decide +kernel
theorem dX0_push_26 : decode cX0_push 26 = .ok (.aload_n 0, 1) := by decide +kernel
theorem dX0_push_27 : decode cX0_push 27 = .ok (.dup, 1) := by decide +kernel
theorem dX0_push_28 : decode cX0_push 28 = .ok (.getfield 84, 3) := by decide +kernel
theorem dX0_push_31 : decode cX0_push 31 = .ok (.iconst 1, 1) := by decide +kernel
theorem dX0_push_32 : decode cX0_push 32 = .ok (.iadd, 1) := by decide +kernel
theorem dX0_push_33 : decode cX0_push 33 = .ok (.putfield 84, 3) := by decide +kernel
theorem dX0_push_36 : decode cX0_push 36 = .ok (.return_, 1) := by decide +kernel
set_option maxRecDepth 100000 in
def f_s_push (x1 : Int) (V : Nat → Nat → Int) (J : Nat → Nat → Int) (Rr : Nat → Nat → Nat) : (Nat → Nat → Int) → Prop :=
  rdb (V 69 2) fun z1 => (if z1 < 0 then rtn V else (if 40 ≤ z1 then rtn V else rdb (up2 V 71 z1.toNat x1) fun V4 => rdb (up2 V4 69 2 (z1 + 1)) fun V5 => rtn V5))
set_option maxHeartbeats 8000000 in
set_option maxRecDepth 100000 in
theorem s_push (l : Launch) (D : va_G) (cy : Nat → ClassId) (ad : Nat → Nat) (G : Nat → Nat → Int) (V J : Nat → Nat → Int) (Rr : Nat → Nat → Nat) (hI : XI G V) (hJ : VJ J) (hR : XR Rr) (x1 : Int) (bx1 : -2147483648 ≤ x1 ∧ x1 ≤ 2147483647) : xMv l D (xTY cy) yX0_push cX0_push 2 none 0 0 0 0 [.ref (ad 69), vI x1] (XW cy ad V J Rr) (fun u : Nat → Nat → Int => XW cy ad u J Rr) (fun u : Nat → Nat → Int => XI G u ∧ FB (fun i k : Nat => (69 ≤ i ∧ i ≤ 71)) V u ∧ (f_s_push x1 V J Rr) u) := by
  refine xMv.mk (lv0 := [(0, .ref (ad 69)), (1, vI x1)]) (by decide) rfl (Nat.le_of_ble_eq_true rfl) (fun p e s m below meth c A C hr hnm hAe => ?_)
  have C : xC2 p s m _ meth c D A s.heap 2 cX0_push RX0 (xTY cy) := C
  have hB : FB (fun i k : Nat => (69 ≤ i ∧ i ≤ 71)) V V := FB.rf _ _
  have hF := Imp.of_eq (f_s_push.eq_def x1 V J Rr)
  refine x_aload_n C.1 dX0_push_0 0 rfl ?_
  obtain ⟨z1, ez1, bz1⟩ := hI.rd 69 2 (x := -2147483648) (y := 2147483647) rfl
  replace hF := hF.to (rdb_e (z := z1) ez1)
  refine x_getI C (N := 129) (i := 69) (by decide) rfl vc_X0 wx_X0 2 (by decide) wf_X0_84 rfl dX0_push_1 (a := z1) ez1 ?_
  refine x_if_lt C.1 (tgt := 36) dX0_push_4 (by decide) (by omega) (fun hc2 => ?_) (fun hc2 => ?_)
  · replace hF := hF.to (if_pos hc2)
    exact x_vret (S := (Nat → Nat → Int)) (post := (fun u : Nat → Nat → Int => XI G u ∧ FB (fun i k : Nat => (69 ≤ i ∧ i ≤ 71)) V u ∧ (f_s_push x1 V J Rr) u)) (w1 := (fun u : Nat → Nat → Int => XW cy ad u J Rr)) C hr rfl dX0_push_36 V rfl ⟨hI, hB, hF _ rfl⟩
  · replace hF := hF.to (if_neg hc2)
    refine x_aload_n C.1 dX0_push_7 0 rfl ?_
    refine x_getI C (N := 129) (i := 69) (by decide) rfl vc_X0 wx_X0 2 (by decide) wf_X0_84 rfl dX0_push_8 (a := z1) ez1 ?_
    refine x_bipush C.1 (n := 40) dX0_push_11 ?_
    refine x_icmp_ge C.1 (tgt := 36) dX0_push_13 (by decide) (by omega) (by decide) (fun hc3 => ?_) (fun hc3 => ?_)
    · replace hF := hF.to (if_pos hc3)
      exact x_vret (S := (Nat → Nat → Int)) (post := (fun u : Nat → Nat → Int => XI G u ∧ FB (fun i k : Nat => (69 ≤ i ∧ i ≤ 71)) V u ∧ (f_s_push x1 V J Rr) u)) (w1 := (fun u : Nat → Nat → Int => XW cy ad u J Rr)) C hr rfl dX0_push_36 V rfl ⟨hI, hB, hF _ rfl⟩
    · replace hF := hF.to (if_neg hc3)
      refine x_aload_n C.1 dX0_push_16 0 rfl ?_
      refine x_getA C (N := 129) (i := 69) (by decide) rfl vc_X0 wx_X0 1 (by decide) wf_X0_15 (a := 71) rfl dX0_push_17 ?_
      refine x_aload_n C.1 dX0_push_20 0 rfl ?_
      refine x_getI C (N := 129) (i := 69) (by decide) rfl vc_X0 wx_X0 2 (by decide) wf_X0_84 rfl dX0_push_21 (a := z1) ez1 ?_
      refine x_iload_n C.1 dX0_push_24 1 rfl ?_
      refine x_iast C (N := 129) (i := 71) (q := z1) (a := x1) (by decide) rfl (by omega) (by decide) dX0_push_25 ?_
      refine x_gV ?_
      intro V4 hV4
      have hI4 : XI G V4 := hI.up hV4 rfl (by omega) rfl
      have hB4 := hB.up hV4 (⟨by decide, by decide⟩)
      replace hF := hF.to (rdb_e (z := V4) hV4.symm)
      refine x_aload_n C.1 dX0_push_26 0 rfl ?_
      refine x_dup C.1 dX0_push_27 rfl ?_
      refine x_getI C (N := 129) (i := 69) (by decide) rfl vc_X0 wx_X0 2 (by decide) wf_X0_84 rfl dX0_push_28 (a := z1) ((congrFun (congrFun hV4 69) 2).trans ((up2_n _ _ (Or.inl (by decide))).trans ez1)) ?_
      refine x_iconst C.1 (n := 1) dX0_push_31 ?_
      refine x_iadd C.1 (v := z1 + 1) (by omega) dX0_push_32 ?_
      refine x_putI C (N := 129) (i := 69) (by decide) rfl vc_X0 wx_X0 2 (by decide) wf_X0_84 tyX0 tyX0_ok nmX0 rfl (tyX0_ok 2 (by decide)) rfl dX0_push_33 rfl rfl ?_
      refine x_gV ?_
      intro V5 hV5
      have hI5 : XI G V5 := hI4.up hV5 rfl (by omega) rfl
      have hB5 := hB4.up hV5 (⟨by decide, by decide⟩)
      replace hF := hF.to (rdb_e (z := V5) hV5.symm)
      exact x_vret (S := (Nat → Nat → Int)) (post := (fun u : Nat → Nat → Int => XI G u ∧ FB (fun i k : Nat => (69 ≤ i ∧ i ≤ 71)) V u ∧ (f_s_push x1 V J Rr) u)) (w1 := (fun u : Nat → Nat → Int => XW cy ad u J Rr)) C hr rfl dX0_push_36 V5 rfl ⟨hI5, hB5, hF _ rfl⟩
theorem dX0_pop_0 : decode cX0_pop 0 = .ok (.aload_n 0, 1) := by decide +kernel
theorem dX0_pop_1 : decode cX0_pop 1 = .ok (.getfield 84, 3) := by decide +kernel
theorem dX0_pop_4 : decode cX0_pop 4 = .ok (.ifCond .le 12, 3) := by decide +kernel
theorem dX0_pop_7 : decode cX0_pop 7 = .ok (.aload_n 0, 1) := by decide +kernel
theorem dX0_pop_8 : decode cX0_pop 8 = .ok (.getfield 84, 3) := by decide +kernel
theorem dX0_pop_11 : decode cX0_pop 11 = .ok (.bipush 40, 2) := by decide +kernel
theorem dX0_pop_13 : decode cX0_pop 13 = .ok (.if_icmp .le 5, 3) := by decide +kernel
theorem dX0_pop_16 : decode cX0_pop 16 = .ok (.iconst 0, 1) := by decide +kernel
theorem dX0_pop_17 : decode cX0_pop 17 = .ok (.ireturn, 1) := by decide +kernel
theorem dX0_pop_18 : decode cX0_pop 18 = .ok (.aload_n 0, 1) := by decide +kernel
theorem dX0_pop_19 : decode cX0_pop 19 = .ok (.dup, 1) := by decide +kernel
theorem dX0_pop_20 : decode cX0_pop 20 = .ok (.getfield 84, 3) := by decide +kernel
theorem dX0_pop_23 : decode cX0_pop 23 = .ok (.iconst 1, 1) := by decide +kernel
theorem dX0_pop_24 : decode cX0_pop 24 = .ok (.isub, 1) := by decide +kernel
theorem dX0_pop_25 : decode cX0_pop 25 = .ok (.putfield 84, 3) := by decide +kernel
theorem dX0_pop_28 : decode cX0_pop 28 = .ok (.aload_n 0, 1) := by decide +kernel
theorem dX0_pop_29 : decode cX0_pop 29 = .ok (.getfield 15, 3) := by decide +kernel
theorem dX0_pop_32 : decode cX0_pop 32 = .ok (.aload_n 0, 1) := by decide +kernel
theorem dX0_pop_33 : decode cX0_pop 33 = .ok (.getfield 84, 3) := by decide +kernel
theorem dX0_pop_36 : decode cX0_pop 36 = .ok (.iaload, 1) := by decide +kernel
theorem dX0_pop_37 : decode cX0_pop 37 = .ok (.ireturn, 1) := by decide +kernel
set_option maxRecDepth 100000 in
def f_s_pop (V : Nat → Nat → Int) (J : Nat → Nat → Int) (Rr : Nat → Nat → Nat) : (Int × (Nat → Nat → Int)) → Prop :=
  rdb (V 69 2) fun z1 => (if z1 ≤ 0 then rtn (0, V) else (if z1 ≤ 40 then rdb (up2 V 69 2 (z1 - 1)) fun V4 => rdb (V4 71 ((z1 - 1).toNat)) fun z5 => rtn (z5, V4) else rtn (0, V)))
set_option maxHeartbeats 8000000 in
set_option maxRecDepth 100000 in
theorem s_pop (l : Launch) (D : va_G) (cy : Nat → ClassId) (ad : Nat → Nat) (G : Nat → Nat → Int) (V J : Nat → Nat → Int) (Rr : Nat → Nat → Nat) (hI : XI G V) (hJ : VJ J) (hR : XR Rr)  : xMi l D (xTY cy) yX0_pop cX0_pop 1 (some .int) 0 0 0 0 [.ref (ad 69)] (XW cy ad V J Rr) (fun u : Nat → Nat → Int => XW cy ad u J Rr) (fun a (u : Nat → Nat → Int) => XI G u ∧ FB (fun i k : Nat => (69 ≤ i ∧ i ≤ 71)) V u ∧ (f_s_pop V J Rr) (a, u)) := by
  refine xMi.mk (lv0 := [(0, .ref (ad 69))]) (by decide) rfl (Nat.le_of_ble_eq_true rfl) (fun p e s m below meth c A C hr hnm hAe => ?_)
  have C : xC2 p s m _ meth c D A s.heap 1 cX0_pop RX0 (xTY cy) := C
  have hB : FB (fun i k : Nat => (69 ≤ i ∧ i ≤ 71)) V V := FB.rf _ _
  have hF := Imp.of_eq (f_s_pop.eq_def V J Rr)
  refine x_aload_n C.1 dX0_pop_0 0 rfl ?_
  obtain ⟨z1, ez1, bz1⟩ := hI.rd 69 2 (x := -2147483648) (y := 2147483647) rfl
  replace hF := hF.to (rdb_e (z := z1) ez1)
  refine x_getI C (N := 129) (i := 69) (by decide) rfl vc_X0 wx_X0 2 (by decide) wf_X0_84 rfl dX0_pop_1 (a := z1) ez1 ?_
  refine x_if_le C.1 (tgt := 16) dX0_pop_4 (by decide) (by omega) (fun hc2 => ?_) (fun hc2 => ?_)
  · replace hF := hF.to (if_pos hc2)
    refine x_iconst C.1 (n := 0) dX0_pop_16 ?_
    exact x_iret (S := (Nat → Nat → Int)) (post := (fun a (u : Nat → Nat → Int) => XI G u ∧ FB (fun i k : Nat => (69 ≤ i ∧ i ≤ 71)) V u ∧ (f_s_pop V J Rr) (a, u))) (w1 := (fun u : Nat → Nat → Int => XW cy ad u J Rr)) (a := 0) C hr rfl dX0_pop_17 (by decide) V rfl ⟨hI, hB, hF _ rfl⟩
  · replace hF := hF.to (if_neg hc2)
    refine x_aload_n C.1 dX0_pop_7 0 rfl ?_
    refine x_getI C (N := 129) (i := 69) (by decide) rfl vc_X0 wx_X0 2 (by decide) wf_X0_84 rfl dX0_pop_8 (a := z1) ez1 ?_
    refine x_bipush C.1 (n := 40) dX0_pop_11 ?_
    refine x_icmp_le C.1 (tgt := 18) dX0_pop_13 (by decide) (by omega) (by decide) (fun hc3 => ?_) (fun hc3 => ?_)
    · replace hF := hF.to (if_pos hc3)
      refine x_aload_n C.1 dX0_pop_18 0 rfl ?_
      refine x_dup C.1 dX0_pop_19 rfl ?_
      refine x_getI C (N := 129) (i := 69) (by decide) rfl vc_X0 wx_X0 2 (by decide) wf_X0_84 rfl dX0_pop_20 (a := z1) ez1 ?_
      refine x_iconst C.1 (n := 1) dX0_pop_23 ?_
      refine x_isub C.1 (v := z1 - 1) (by omega) dX0_pop_24 ?_
      refine x_putI C (N := 129) (i := 69) (by decide) rfl vc_X0 wx_X0 2 (by decide) wf_X0_84 tyX0 tyX0_ok nmX0 rfl (tyX0_ok 2 (by decide)) rfl dX0_pop_25 rfl rfl ?_
      refine x_gV ?_
      intro V4 hV4
      have hI4 : XI G V4 := hI.up hV4 rfl (by omega) rfl
      have hB4 := hB.up hV4 (⟨by decide, by decide⟩)
      replace hF := hF.to (rdb_e (z := V4) hV4.symm)
      refine x_aload_n C.1 dX0_pop_28 0 rfl ?_
      refine x_getA C (N := 129) (i := 69) (by decide) rfl vc_X0 wx_X0 1 (by decide) wf_X0_15 (a := 71) rfl dX0_pop_29 ?_
      refine x_aload_n C.1 dX0_pop_32 0 rfl ?_
      refine x_getI C (N := 129) (i := 69) (by decide) rfl vc_X0 wx_X0 2 (by decide) wf_X0_84 rfl dX0_pop_33 (a := z1 - 1) ((congrFun (congrFun hV4 69) 2).trans (up2_s _ _ _ _)) ?_
      obtain ⟨z5, ez5, bz5⟩ := hI4.rd 71 ((z1 - 1).toNat) (x := -2147483648) (y := 2147483647) rfl
      replace hF := hF.to (rdb_e (z := z5) ez5)
      refine x_iald C (N := 129) (i := 71) (q := z1 - 1) (by decide) rfl (by omega) (by decide) dX0_pop_36 (a := z5) ez5 ?_
      exact x_iret (S := (Nat → Nat → Int)) (post := (fun a (u : Nat → Nat → Int) => XI G u ∧ FB (fun i k : Nat => (69 ≤ i ∧ i ≤ 71)) V u ∧ (f_s_pop V J Rr) (a, u))) (w1 := (fun u : Nat → Nat → Int => XW cy ad u J Rr)) (a := z5) C hr rfl dX0_pop_37 (by omega) V4 rfl ⟨hI4, hB4, hF _ rfl⟩
    · replace hF := hF.to (if_neg hc3)
      refine x_iconst C.1 (n := 0) dX0_pop_16 ?_
      exact x_iret (S := (Nat → Nat → Int)) (post := (fun a (u : Nat → Nat → Int) => XI G u ∧ FB (fun i k : Nat => (69 ≤ i ∧ i ≤ 71)) V u ∧ (f_s_pop V J Rr) (a, u))) (w1 := (fun u : Nat → Nat → Int => XW cy ad u J Rr)) (a := 0) C hr rfl dX0_pop_17 (by decide) V rfl ⟨hI, hB, hF _ rfl⟩
theorem dX0_reckon_0 : decode cX0_reckon 0 = .ok (.iload_n 1, 1) := by decide +kernel
theorem dX0_reckon_1 : decode cX0_reckon 1 = .ok (.tableswitch 92 2 9 #[47, 51, 55, 92, 92, 59, 70, 81], 47) := by decide +kernel
theorem dX0_reckon_48 : decode cX0_reckon 48 = .ok (.iload_n 2, 1) := by decide +kernel
theorem dX0_reckon_49 : decode cX0_reckon 49 = .ok (.iload_n 3, 1) := by decide +kernel
theorem dX0_reckon_50 : decode cX0_reckon 50 = .ok (.iadd, 1) := by decide +kernel
theorem dX0_reckon_51 : decode cX0_reckon 51 = .ok (.ireturn, 1) := by decide +kernel
theorem dX0_reckon_52 : decode cX0_reckon 52 = .ok (.iload_n 2, 1) := by decide +kernel
theorem dX0_reckon_53 : decode cX0_reckon 53 = .ok (.iload_n 3, 1) := by decide +kernel
theorem dX0_reckon_54 : decode cX0_reckon 54 = .ok (.isub, 1) := by decide +kernel
theorem dX0_reckon_55 : decode cX0_reckon 55 = .ok (.ireturn, 1) := by decide +kernel
theorem dX0_reckon_56 : decode cX0_reckon 56 = .ok (.iload_n 2, 1) := by decide +kernel
theorem dX0_reckon_57 : decode cX0_reckon 57 = .ok (.iload_n 3, 1) := by decide +kernel
theorem dX0_reckon_58 : decode cX0_reckon 58 = .ok (.imul, 1) := by decide +kernel
theorem dX0_reckon_59 : decode cX0_reckon 59 = .ok (.ireturn, 1) := by decide +kernel
theorem dX0_reckon_60 : decode cX0_reckon 60 = .ok (.iload_n 2, 1) := by decide +kernel
theorem dX0_reckon_61 : decode cX0_reckon 61 = .ok (.iload_n 3, 1) := by decide +kernel
theorem dX0_reckon_62 : decode cX0_reckon 62 = .ok (.if_icmp .ge 7, 3) := by decide +kernel
theorem dX0_reckon_65 : decode cX0_reckon 65 = .ok (.iconst 1, 1) := by decide +kernel
theorem dX0_reckon_66 : decode cX0_reckon 66 = .ok (.goto 4, 3) := by decide +kernel
theorem dX0_reckon_69 : decode cX0_reckon 69 = .ok (.iconst 0, 1) := by decide +kernel
theorem dX0_reckon_70 : decode cX0_reckon 70 = .ok (.ireturn, 1) := by decide +kernel
theorem dX0_reckon_71 : decode cX0_reckon 71 = .ok (.iload_n 2, 1) := by decide +kernel
theorem dX0_reckon_72 : decode cX0_reckon 72 = .ok (.iload_n 3, 1) := by decide +kernel
theorem dX0_reckon_73 : decode cX0_reckon 73 = .ok (.if_icmp .le 7, 3) := by decide +kernel
theorem dX0_reckon_76 : decode cX0_reckon 76 = .ok (.iconst 1, 1) := by decide +kernel
theorem dX0_reckon_77 : decode cX0_reckon 77 = .ok (.goto 4, 3) := by decide +kernel
theorem dX0_reckon_80 : decode cX0_reckon 80 = .ok (.iconst 0, 1) := by decide +kernel
theorem dX0_reckon_81 : decode cX0_reckon 81 = .ok (.ireturn, 1) := by decide +kernel
theorem dX0_reckon_82 : decode cX0_reckon 82 = .ok (.iload_n 2, 1) := by decide +kernel
theorem dX0_reckon_83 : decode cX0_reckon 83 = .ok (.iload_n 3, 1) := by decide +kernel
theorem dX0_reckon_84 : decode cX0_reckon 84 = .ok (.if_icmp .ne 7, 3) := by decide +kernel
theorem dX0_reckon_87 : decode cX0_reckon 87 = .ok (.iconst 1, 1) := by decide +kernel
theorem dX0_reckon_88 : decode cX0_reckon 88 = .ok (.goto 4, 3) := by decide +kernel
theorem dX0_reckon_91 : decode cX0_reckon 91 = .ok (.iconst 0, 1) := by decide +kernel
theorem dX0_reckon_92 : decode cX0_reckon 92 = .ok (.ireturn, 1) := by decide +kernel
theorem dX0_reckon_93 : decode cX0_reckon 93 = .ok (.iload_n 3, 1) := by decide +kernel
theorem dX0_reckon_94 : decode cX0_reckon 94 = .ok (.ifCond .ne 10, 3) := by decide +kernel
theorem dX0_reckon_97 : decode cX0_reckon 97 = .ok (.aload_n 0, 1) := by decide +kernel
theorem dX0_reckon_98 : decode cX0_reckon 98 = .ok (.iconst 1, 1) := by decide +kernel
theorem dX0_reckon_99 : decode cX0_reckon 99 = .ok (.putfield 87, 3) := by decide +kernel
theorem dX0_reckon_102 : decode cX0_reckon 102 = .ok (.iconst 0, 1) := by decide +kernel
theorem dX0_reckon_103 : decode cX0_reckon 103 = .ok (.ireturn, 1) := by decide +kernel
theorem dX0_reckon_104 : decode cX0_reckon 104 = .ok (.iload_n 1, 1) := by decide +kernel
theorem dX0_reckon_105 : decode cX0_reckon 105 = .ok (.iconst 5, 1) := by decide +kernel
theorem dX0_reckon_106 : decode cX0_reckon 106 = .ok (.if_icmp .ne 9, 3) := by decide +kernel
theorem dX0_reckon_109 : decode cX0_reckon 109 = .ok (.iload_n 2, 1) := by decide +kernel
theorem dX0_reckon_110 : decode cX0_reckon 110 = .ok (.iload_n 3, 1) := by decide +kernel
theorem dX0_reckon_111 : decode cX0_reckon 111 = .ok (.idiv, 1) := by decide +kernel
theorem dX0_reckon_112 : decode cX0_reckon 112 = .ok (.goto 6, 3) := by decide +kernel
theorem dX0_reckon_115 : decode cX0_reckon 115 = .ok (.iload_n 2, 1) := by decide +kernel
theorem dX0_reckon_116 : decode cX0_reckon 116 = .ok (.iload_n 3, 1) := by decide +kernel
theorem dX0_reckon_117 : decode cX0_reckon 117 = .ok (.irem, 1) := by decide +kernel
theorem dX0_reckon_118 : decode cX0_reckon 118 = .ok (.ireturn, 1) := by decide +kernel
set_option maxRecDepth 100000 in
def f_s_reckon (x1 : Int) (x2 : Int) (x3 : Int) (V : Nat → Nat → Int) (J : Nat → Nat → Int) (Rr : Nat → Nat → Nat) : (Int × (Nat → Nat → Int)) → Prop :=
  (if x1 = 2 then rdb (wr (x2 + x3)) fun z2 => rtn (z2, V) else (if x1 = 3 then rdb (wr (x2 - x3)) fun z4 => rtn (z4, V) else (if x1 = 4 then rdb (wr (x2 * x3)) fun z6 => rtn (z6, V) else (if x1 = 5 then (if ¬ x3 = 0 then rdb (iDiv x2 x3) fun z9 => rtn (z9, V) else rdb (up2 V 69 3 1) fun V10 => rtn (0, V10)) else (if x1 = 6 then (if ¬ x3 = 0 then rdb (iRem x2 x3) fun z13 => rtn (z13, V) else rdb (up2 V 69 3 1) fun V14 => rtn (0, V14)) else (if x1 = 7 then (if x3 ≤ x2 then rtn (0, V) else rtn (1, V)) else (if x1 = 8 then (if x2 ≤ x3 then rtn (0, V) else rtn (1, V)) else (if x1 = 9 then (if ¬ x2 = x3 then rtn (0, V) else rtn (1, V)) else (if ¬ x3 = 0 then (if ¬ x1 = 5 then rdb (iRem x2 x3) fun z23 => rtn (z23, V) else rdb (iDiv x2 x3) fun z24 => rtn (z24, V)) else rdb (up2 V 69 3 1) fun V25 => rtn (0, V25))))))))))
set_option maxHeartbeats 8000000 in
set_option maxRecDepth 100000 in
theorem s_reckon (l : Launch) (D : va_G) (cy : Nat → ClassId) (ad : Nat → Nat) (G : Nat → Nat → Int) (V J : Nat → Nat → Int) (Rr : Nat → Nat → Nat) (hI : XI G V) (hJ : VJ J) (hR : XR Rr) (x1 : Int) (bx1 : -2147483648 ≤ x1 ∧ x1 ≤ 2147483647) (x2 : Int) (bx2 : -2147483648 ≤ x2 ∧ x2 ≤ 2147483647) (x3 : Int) (bx3 : -2147483648 ≤ x3 ∧ x3 ≤ 2147483647) : xMi l D (xTY cy) yX0_reckon cX0_reckon 4 (some .int) 0 0 0 0 [.ref (ad 69), vI x1, vI x2, vI x3] (XW cy ad V J Rr) (fun u : Nat → Nat → Int => XW cy ad u J Rr) (fun a (u : Nat → Nat → Int) => XI G u ∧ FB (fun i k : Nat => (69 ≤ i ∧ i ≤ 71)) V u ∧ (f_s_reckon x1 x2 x3 V J Rr) (a, u)) := by
  refine xMi.mk (lv0 := [(0, .ref (ad 69)), (1, vI x1), (2, vI x2), (3, vI x3)]) (by decide) rfl (Nat.le_of_ble_eq_true rfl) (fun p e s m below meth c A C hr hnm hAe => ?_)
  have C : xC2 p s m _ meth c D A s.heap 4 cX0_reckon RX0 (xTY cy) := C
  have hB : FB (fun i k : Nat => (69 ≤ i ∧ i ≤ 71)) V V := FB.rf _ _
  have hF := Imp.of_eq (f_s_reckon.eq_def x1 x2 x3 V J Rr)
  refine x_iload_n C.1 dX0_reckon_0 1 rfl ?_
  by_cases hs1 : x1 = 2
  · replace hF := hF.to (if_pos hs1)
    refine x_tabIn C.1 2 hs1 (by decide) (tgt := 48) dX0_reckon_1 (by decide) (by decide) rfl (by decide) ?_
    refine x_iload_n C.1 dX0_reckon_48 2 rfl ?_
    refine x_iload_n C.1 dX0_reckon_49 3 rfl ?_
    refine x_iadd C.1 (v := x2 + x3) (by omega) dX0_reckon_50 ?_
    refine x_wrapg ?_
    intro z2 bz2 ew2
    replace hF := hF.to (rdb_e (z := z2) ew2.symm)
    exact x_iret (S := (Nat → Nat → Int)) (post := (fun a (u : Nat → Nat → Int) => XI G u ∧ FB (fun i k : Nat => (69 ≤ i ∧ i ≤ 71)) V u ∧ (f_s_reckon x1 x2 x3 V J Rr) (a, u))) (w1 := (fun u : Nat → Nat → Int => XW cy ad u J Rr)) (a := z2) C hr rfl dX0_reckon_51 (by omega) V rfl ⟨hI, hB, hF _ rfl⟩
  replace hF := hF.to (if_neg hs1)
  by_cases hs3 : x1 = 3
  · replace hF := hF.to (if_pos hs3)
    refine x_tabIn C.1 3 hs3 (by decide) (tgt := 52) dX0_reckon_1 (by decide) (by decide) rfl (by decide) ?_
    refine x_iload_n C.1 dX0_reckon_52 2 rfl ?_
    refine x_iload_n C.1 dX0_reckon_53 3 rfl ?_
    refine x_isub C.1 (v := x2 - x3) (by omega) dX0_reckon_54 ?_
    refine x_wrapg ?_
    intro z4 bz4 ew4
    replace hF := hF.to (rdb_e (z := z4) ew4.symm)
    exact x_iret (S := (Nat → Nat → Int)) (post := (fun a (u : Nat → Nat → Int) => XI G u ∧ FB (fun i k : Nat => (69 ≤ i ∧ i ≤ 71)) V u ∧ (f_s_reckon x1 x2 x3 V J Rr) (a, u))) (w1 := (fun u : Nat → Nat → Int => XW cy ad u J Rr)) (a := z4) C hr rfl dX0_reckon_55 (by omega) V rfl ⟨hI, hB, hF _ rfl⟩
  replace hF := hF.to (if_neg hs3)
  by_cases hs5 : x1 = 4
  · replace hF := hF.to (if_pos hs5)
    refine x_tabIn C.1 4 hs5 (by decide) (tgt := 56) dX0_reckon_1 (by decide) (by decide) rfl (by decide) ?_
    refine x_iload_n C.1 dX0_reckon_56 2 rfl ?_
    refine x_iload_n C.1 dX0_reckon_57 3 rfl ?_
    refine x_imul C.1 rfl dX0_reckon_58 ?_
    refine x_wrapg ?_
    intro z6 bz6 ew6
    replace hF := hF.to (rdb_e (z := z6) ew6.symm)
    exact x_iret (S := (Nat → Nat → Int)) (post := (fun a (u : Nat → Nat → Int) => XI G u ∧ FB (fun i k : Nat => (69 ≤ i ∧ i ≤ 71)) V u ∧ (f_s_reckon x1 x2 x3 V J Rr) (a, u))) (w1 := (fun u : Nat → Nat → Int => XW cy ad u J Rr)) (a := z6) C hr rfl dX0_reckon_59 (by omega) V rfl ⟨hI, hB, hF _ rfl⟩
  replace hF := hF.to (if_neg hs5)
  by_cases hs7 : x1 = 5
  · replace hF := hF.to (if_pos hs7)
    refine x_tabIn C.1 5 hs7 (by decide) (tgt := 93) dX0_reckon_1 (by decide) (by decide) rfl (by decide) ?_
    refine x_iload_n C.1 dX0_reckon_93 3 rfl ?_
    refine x_if_ne C.1 (tgt := 104) dX0_reckon_94 (by decide) (by omega) (fun hc8 => ?_) (fun hc8 => ?_)
    · replace hF := hF.to (if_pos hc8)
      refine x_iload_n C.1 dX0_reckon_104 1 rfl ?_
      refine x_iconst C.1 (n := 5) dX0_reckon_105 ?_
      refine x_icmp_ne_f C.1 (tgt := 115) dX0_reckon_106 (by decide) (by omega) (by decide) (by omega) ?_
      refine x_iload_n C.1 dX0_reckon_109 2 rfl ?_
      refine x_iload_n C.1 dX0_reckon_110 3 rfl ?_
      obtain ⟨z9, hz9, bz9⟩ : ∃ z : Int, iDiv x2 x3 = z ∧ (-2147483648 ≤ z ∧ z ≤ 2147483647) := ⟨_, rfl, xi_r _⟩
      replace hF := hF.to (rdb_e (z := z9) hz9)
      refine x_idiv C.1 (v := z9) hz9 dX0_reckon_111 (by omega) (by omega) ?_
      refine x_goto C.1 (tgt := 118) dX0_reckon_112 (by decide) ?_
      exact x_iret (S := (Nat → Nat → Int)) (post := (fun a (u : Nat → Nat → Int) => XI G u ∧ FB (fun i k : Nat => (69 ≤ i ∧ i ≤ 71)) V u ∧ (f_s_reckon x1 x2 x3 V J Rr) (a, u))) (w1 := (fun u : Nat → Nat → Int => XW cy ad u J Rr)) (a := z9) C hr rfl dX0_reckon_118 (by omega) V rfl ⟨hI, hB, hF _ rfl⟩
    · replace hF := hF.to (if_neg (fun hh => hh hc8))
      refine x_aload_n C.1 dX0_reckon_97 0 rfl ?_
      refine x_iconst C.1 (n := 1) dX0_reckon_98 ?_
      refine x_putI C (N := 129) (i := 69) (by decide) rfl vc_X0 wx_X0 3 (by decide) wf_X0_87 tyX0 tyX0_ok nmX0 rfl (tyX0_ok 3 (by decide)) rfl dX0_reckon_99 (by decide) (by decide) ?_
      refine x_gV ?_
      intro V10 hV10
      have hI10 : XI G V10 := hI.up hV10 rfl (by decide) rfl
      have hB10 := hB.up hV10 (⟨by decide, by decide⟩)
      replace hF := hF.to (rdb_e (z := V10) hV10.symm)
      refine x_iconst C.1 (n := 0) dX0_reckon_102 ?_
      exact x_iret (S := (Nat → Nat → Int)) (post := (fun a (u : Nat → Nat → Int) => XI G u ∧ FB (fun i k : Nat => (69 ≤ i ∧ i ≤ 71)) V u ∧ (f_s_reckon x1 x2 x3 V J Rr) (a, u))) (w1 := (fun u : Nat → Nat → Int => XW cy ad u J Rr)) (a := 0) C hr rfl dX0_reckon_103 (by decide) V10 rfl ⟨hI10, hB10, hF _ rfl⟩
  replace hF := hF.to (if_neg hs7)
  by_cases hs11 : x1 = 6
  · replace hF := hF.to (if_pos hs11)
    refine x_tabIn C.1 6 hs11 (by decide) (tgt := 93) dX0_reckon_1 (by decide) (by decide) rfl (by decide) ?_
    refine x_iload_n C.1 dX0_reckon_93 3 rfl ?_
    refine x_if_ne C.1 (tgt := 104) dX0_reckon_94 (by decide) (by omega) (fun hc12 => ?_) (fun hc12 => ?_)
    · replace hF := hF.to (if_pos hc12)
      refine x_iload_n C.1 dX0_reckon_104 1 rfl ?_
      refine x_iconst C.1 (n := 5) dX0_reckon_105 ?_
      refine x_icmp_ne_t C.1 (tgt := 115) dX0_reckon_106 (by decide) (by omega) (by decide) (by omega) ?_
      refine x_iload_n C.1 dX0_reckon_115 2 rfl ?_
      refine x_iload_n C.1 dX0_reckon_116 3 rfl ?_
      obtain ⟨z13, hz13, bz13⟩ : ∃ z : Int, iRem x2 x3 = z ∧ (-2147483648 ≤ z ∧ z ≤ 2147483647) := ⟨_, rfl, xi_r _⟩
      replace hF := hF.to (rdb_e (z := z13) hz13)
      refine x_irem C.1 (v := z13) hz13 dX0_reckon_117 (by omega) (by omega) ?_
      exact x_iret (S := (Nat → Nat → Int)) (post := (fun a (u : Nat → Nat → Int) => XI G u ∧ FB (fun i k : Nat => (69 ≤ i ∧ i ≤ 71)) V u ∧ (f_s_reckon x1 x2 x3 V J Rr) (a, u))) (w1 := (fun u : Nat → Nat → Int => XW cy ad u J Rr)) (a := z13) C hr rfl dX0_reckon_118 (by omega) V rfl ⟨hI, hB, hF _ rfl⟩
    · replace hF := hF.to (if_neg (fun hh => hh hc12))
      refine x_aload_n C.1 dX0_reckon_97 0 rfl ?_
      refine x_iconst C.1 (n := 1) dX0_reckon_98 ?_
      refine x_putI C (N := 129) (i := 69) (by decide) rfl vc_X0 wx_X0 3 (by decide) wf_X0_87 tyX0 tyX0_ok nmX0 rfl (tyX0_ok 3 (by decide)) rfl dX0_reckon_99 (by decide) (by decide) ?_
      refine x_gV ?_
      intro V14 hV14
      have hI14 : XI G V14 := hI.up hV14 rfl (by decide) rfl
      have hB14 := hB.up hV14 (⟨by decide, by decide⟩)
      replace hF := hF.to (rdb_e (z := V14) hV14.symm)
      refine x_iconst C.1 (n := 0) dX0_reckon_102 ?_
      exact x_iret (S := (Nat → Nat → Int)) (post := (fun a (u : Nat → Nat → Int) => XI G u ∧ FB (fun i k : Nat => (69 ≤ i ∧ i ≤ 71)) V u ∧ (f_s_reckon x1 x2 x3 V J Rr) (a, u))) (w1 := (fun u : Nat → Nat → Int => XW cy ad u J Rr)) (a := 0) C hr rfl dX0_reckon_103 (by decide) V14 rfl ⟨hI14, hB14, hF _ rfl⟩
  replace hF := hF.to (if_neg hs11)
  by_cases hs15 : x1 = 7
  · replace hF := hF.to (if_pos hs15)
    refine x_tabIn C.1 7 hs15 (by decide) (tgt := 60) dX0_reckon_1 (by decide) (by decide) rfl (by decide) ?_
    refine x_iload_n C.1 dX0_reckon_60 2 rfl ?_
    refine x_iload_n C.1 dX0_reckon_61 3 rfl ?_
    refine x_icmp_ge C.1 (tgt := 69) dX0_reckon_62 (by decide) (by omega) (by omega) (fun hc16 => ?_) (fun hc16 => ?_)
    · replace hF := hF.to (if_pos hc16)
      refine x_iconst C.1 (n := 0) dX0_reckon_69 ?_
      exact x_iret (S := (Nat → Nat → Int)) (post := (fun a (u : Nat → Nat → Int) => XI G u ∧ FB (fun i k : Nat => (69 ≤ i ∧ i ≤ 71)) V u ∧ (f_s_reckon x1 x2 x3 V J Rr) (a, u))) (w1 := (fun u : Nat → Nat → Int => XW cy ad u J Rr)) (a := 0) C hr rfl dX0_reckon_70 (by decide) V rfl ⟨hI, hB, hF _ rfl⟩
    · replace hF := hF.to (if_neg hc16)
      refine x_iconst C.1 (n := 1) dX0_reckon_65 ?_
      refine x_goto C.1 (tgt := 70) dX0_reckon_66 (by decide) ?_
      exact x_iret (S := (Nat → Nat → Int)) (post := (fun a (u : Nat → Nat → Int) => XI G u ∧ FB (fun i k : Nat => (69 ≤ i ∧ i ≤ 71)) V u ∧ (f_s_reckon x1 x2 x3 V J Rr) (a, u))) (w1 := (fun u : Nat → Nat → Int => XW cy ad u J Rr)) (a := 1) C hr rfl dX0_reckon_70 (by decide) V rfl ⟨hI, hB, hF _ rfl⟩
  replace hF := hF.to (if_neg hs15)
  by_cases hs17 : x1 = 8
  · replace hF := hF.to (if_pos hs17)
    refine x_tabIn C.1 8 hs17 (by decide) (tgt := 71) dX0_reckon_1 (by decide) (by decide) rfl (by decide) ?_
    refine x_iload_n C.1 dX0_reckon_71 2 rfl ?_
    refine x_iload_n C.1 dX0_reckon_72 3 rfl ?_
    refine x_icmp_le C.1 (tgt := 80) dX0_reckon_73 (by decide) (by omega) (by omega) (fun hc18 => ?_) (fun hc18 => ?_)
    · replace hF := hF.to (if_pos hc18)
      refine x_iconst C.1 (n := 0) dX0_reckon_80 ?_
      exact x_iret (S := (Nat → Nat → Int)) (post := (fun a (u : Nat → Nat → Int) => XI G u ∧ FB (fun i k : Nat => (69 ≤ i ∧ i ≤ 71)) V u ∧ (f_s_reckon x1 x2 x3 V J Rr) (a, u))) (w1 := (fun u : Nat → Nat → Int => XW cy ad u J Rr)) (a := 0) C hr rfl dX0_reckon_81 (by decide) V rfl ⟨hI, hB, hF _ rfl⟩
    · replace hF := hF.to (if_neg hc18)
      refine x_iconst C.1 (n := 1) dX0_reckon_76 ?_
      refine x_goto C.1 (tgt := 81) dX0_reckon_77 (by decide) ?_
      exact x_iret (S := (Nat → Nat → Int)) (post := (fun a (u : Nat → Nat → Int) => XI G u ∧ FB (fun i k : Nat => (69 ≤ i ∧ i ≤ 71)) V u ∧ (f_s_reckon x1 x2 x3 V J Rr) (a, u))) (w1 := (fun u : Nat → Nat → Int => XW cy ad u J Rr)) (a := 1) C hr rfl dX0_reckon_81 (by decide) V rfl ⟨hI, hB, hF _ rfl⟩
  replace hF := hF.to (if_neg hs17)
  by_cases hs19 : x1 = 9
  · replace hF := hF.to (if_pos hs19)
    refine x_tabIn C.1 9 hs19 (by decide) (tgt := 82) dX0_reckon_1 (by decide) (by decide) rfl (by decide) ?_
    refine x_iload_n C.1 dX0_reckon_82 2 rfl ?_
    refine x_iload_n C.1 dX0_reckon_83 3 rfl ?_
    refine x_icmp_ne C.1 (tgt := 91) dX0_reckon_84 (by decide) (by omega) (by omega) (fun hc20 => ?_) (fun hc20 => ?_)
    · replace hF := hF.to (if_pos hc20)
      refine x_iconst C.1 (n := 0) dX0_reckon_91 ?_
      exact x_iret (S := (Nat → Nat → Int)) (post := (fun a (u : Nat → Nat → Int) => XI G u ∧ FB (fun i k : Nat => (69 ≤ i ∧ i ≤ 71)) V u ∧ (f_s_reckon x1 x2 x3 V J Rr) (a, u))) (w1 := (fun u : Nat → Nat → Int => XW cy ad u J Rr)) (a := 0) C hr rfl dX0_reckon_92 (by decide) V rfl ⟨hI, hB, hF _ rfl⟩
    · replace hF := hF.to (if_neg (fun hh => hh hc20))
      refine x_iconst C.1 (n := 1) dX0_reckon_87 ?_
      refine x_goto C.1 (tgt := 92) dX0_reckon_88 (by decide) ?_
      exact x_iret (S := (Nat → Nat → Int)) (post := (fun a (u : Nat → Nat → Int) => XI G u ∧ FB (fun i k : Nat => (69 ≤ i ∧ i ≤ 71)) V u ∧ (f_s_reckon x1 x2 x3 V J Rr) (a, u))) (w1 := (fun u : Nat → Nat → Int => XW cy ad u J Rr)) (a := 1) C hr rfl dX0_reckon_92 (by decide) V rfl ⟨hI, hB, hF _ rfl⟩
  replace hF := hF.to (if_neg hs19)
  refine x_tabOut C.1 (tgt := 93) (by omega) dX0_reckon_1 (by omega) (by decide) ?_
  refine x_iload_n C.1 dX0_reckon_93 3 rfl ?_
  refine x_if_ne C.1 (tgt := 104) dX0_reckon_94 (by decide) (by omega) (fun hc21 => ?_) (fun hc21 => ?_)
  · replace hF := hF.to (if_pos hc21)
    refine x_iload_n C.1 dX0_reckon_104 1 rfl ?_
    refine x_iconst C.1 (n := 5) dX0_reckon_105 ?_
    refine x_icmp_ne C.1 (tgt := 115) dX0_reckon_106 (by decide) (by omega) (by decide) (fun hc22 => ?_) (fun hc22 => ?_)
    · replace hF := hF.to (if_pos hc22)
      refine x_iload_n C.1 dX0_reckon_115 2 rfl ?_
      refine x_iload_n C.1 dX0_reckon_116 3 rfl ?_
      obtain ⟨z23, hz23, bz23⟩ : ∃ z : Int, iRem x2 x3 = z ∧ (-2147483648 ≤ z ∧ z ≤ 2147483647) := ⟨_, rfl, xi_r _⟩
      replace hF := hF.to (rdb_e (z := z23) hz23)
      refine x_irem C.1 (v := z23) hz23 dX0_reckon_117 (by omega) (by omega) ?_
      exact x_iret (S := (Nat → Nat → Int)) (post := (fun a (u : Nat → Nat → Int) => XI G u ∧ FB (fun i k : Nat => (69 ≤ i ∧ i ≤ 71)) V u ∧ (f_s_reckon x1 x2 x3 V J Rr) (a, u))) (w1 := (fun u : Nat → Nat → Int => XW cy ad u J Rr)) (a := z23) C hr rfl dX0_reckon_118 (by omega) V rfl ⟨hI, hB, hF _ rfl⟩
    · replace hF := hF.to (if_neg (fun hh => hh hc22))
      refine x_iload_n C.1 dX0_reckon_109 2 rfl ?_
      refine x_iload_n C.1 dX0_reckon_110 3 rfl ?_
      obtain ⟨z24, hz24, bz24⟩ : ∃ z : Int, iDiv x2 x3 = z ∧ (-2147483648 ≤ z ∧ z ≤ 2147483647) := ⟨_, rfl, xi_r _⟩
      replace hF := hF.to (rdb_e (z := z24) hz24)
      refine x_idiv C.1 (v := z24) hz24 dX0_reckon_111 (by omega) (by omega) ?_
      refine x_goto C.1 (tgt := 118) dX0_reckon_112 (by decide) ?_
      exact x_iret (S := (Nat → Nat → Int)) (post := (fun a (u : Nat → Nat → Int) => XI G u ∧ FB (fun i k : Nat => (69 ≤ i ∧ i ≤ 71)) V u ∧ (f_s_reckon x1 x2 x3 V J Rr) (a, u))) (w1 := (fun u : Nat → Nat → Int => XW cy ad u J Rr)) (a := z24) C hr rfl dX0_reckon_118 (by omega) V rfl ⟨hI, hB, hF _ rfl⟩
  · replace hF := hF.to (if_neg (fun hh => hh hc21))
    refine x_aload_n C.1 dX0_reckon_97 0 rfl ?_
    refine x_iconst C.1 (n := 1) dX0_reckon_98 ?_
    refine x_putI C (N := 129) (i := 69) (by decide) rfl vc_X0 wx_X0 3 (by decide) wf_X0_87 tyX0 tyX0_ok nmX0 rfl (tyX0_ok 3 (by decide)) rfl dX0_reckon_99 (by decide) (by decide) ?_
    refine x_gV ?_
    intro V25 hV25
    have hI25 : XI G V25 := hI.up hV25 rfl (by decide) rfl
    have hB25 := hB.up hV25 (⟨by decide, by decide⟩)
    replace hF := hF.to (rdb_e (z := V25) hV25.symm)
    refine x_iconst C.1 (n := 0) dX0_reckon_102 ?_
    exact x_iret (S := (Nat → Nat → Int)) (post := (fun a (u : Nat → Nat → Int) => XI G u ∧ FB (fun i k : Nat => (69 ≤ i ∧ i ≤ 71)) V u ∧ (f_s_reckon x1 x2 x3 V J Rr) (a, u))) (w1 := (fun u : Nat → Nat → Int => XW cy ad u J Rr)) (a := 0) C hr rfl dX0_reckon_103 (by decide) V25 rfl ⟨hI25, hB25, hF _ rfl⟩
theorem hd_yX0_pop : yX0_pop.cls ≠ "java/lang/invoke/MethodHandle" ∧ yX0_pop.cls ≠ "java/lang/invoke/VarHandle" ∧ (parseMethodDescriptor yX0_pop.desc).map (fun d => d.parameters.length) = some 0 := by decide +kernel
theorem hd_yX0_push : yX0_push.cls ≠ "java/lang/invoke/MethodHandle" ∧ yX0_push.cls ≠ "java/lang/invoke/VarHandle" ∧ (parseMethodDescriptor yX0_push.desc).map (fun d => d.parameters.length) = some 1 := by decide +kernel
theorem hd_yX0_reckon : yX0_reckon.cls ≠ "java/lang/invoke/MethodHandle" ∧ yX0_reckon.cls ≠ "java/lang/invoke/VarHandle" ∧ (parseMethodDescriptor yX0_reckon.desc).map (fun d => d.parameters.length) = some 3 := by decide +kernel
theorem dX0_run_0 : decode cX0_run 0 = .ok (.aload_n 0, 1) := by decide +kernel
theorem dX0_run_1 : decode cX0_run 1 = .ok (.iconst 0, 1) := by decide +kernel
theorem dX0_run_2 : decode cX0_run 2 = .ok (.putfield 84, 3) := by decide +kernel
theorem dX0_run_5 : decode cX0_run 5 = .ok (.aload_n 0, 1) := by decide +kernel
theorem dX0_run_6 : decode cX0_run 6 = .ok (.iconst 0, 1) := by decide +kernel
theorem dX0_run_7 : decode cX0_run 7 = .ok (.putfield 87, 3) := by decide +kernel
theorem dX0_run_10 : decode cX0_run 10 = .ok (.iload_n 2, 1) := by decide +kernel
theorem dX0_run_11 : decode cX0_run 11 = .ok (.istore 4, 2) := by decide +kernel
theorem dX0_run_13 : decode cX0_run 13 = .ok (.iconst 0, 1) := by decide +kernel
theorem dX0_run_14 : decode cX0_run 14 = .ok (.istore 5, 2) := by decide +kernel
theorem dX0_run_16 : decode cX0_run 16 = .ok (.iload 5, 2) := by decide +kernel
theorem dX0_run_18 : decode cX0_run 18 = .ok (.sipush 200, 3) := by decide +kernel
theorem dX0_run_21 : decode cX0_run 21 = .ok (.if_icmp .ge 215, 3) := by decide +kernel
theorem dX0_run_24 : decode cX0_run 24 = .ok (.iload 4, 2) := by decide +kernel
theorem dX0_run_26 : decode cX0_run 26 = .ok (.ifCond .lt 210, 3) := by decide +kernel
theorem dX0_run_29 : decode cX0_run 29 = .ok (.iload 4, 2) := by decide +kernel
theorem dX0_run_31 : decode cX0_run 31 = .ok (.iload_n 3, 1) := by decide +kernel
theorem dX0_run_32 : decode cX0_run 32 = .ok (.if_icmp .ge 204, 3) := by decide +kernel
theorem dX0_run_35 : decode cX0_run 35 = .ok (.iload 4, 2) := by decide +kernel
theorem dX0_run_37 : decode cX0_run 37 = .ok (.aload_n 1, 1) := by decide +kernel
theorem dX0_run_38 : decode cX0_run 38 = .ok (.getfield 90, 3) := by decide +kernel
theorem dX0_run_41 : decode cX0_run 41 = .ok (.if_icmp .ge 195, 3) := by decide +kernel
theorem dX0_run_44 : decode cX0_run 44 = .ok (.aload_n 0, 1) := by decide +kernel
theorem dX0_run_45 : decode cX0_run 45 = .ok (.getfield 87, 3) := by decide +kernel
theorem dX0_run_48 : decode cX0_run 48 = .ok (.ifCond .ne 188, 3) := by decide +kernel
theorem dX0_run_51 : decode cX0_run 51 = .ok (.aload_n 1, 1) := by decide +kernel
theorem dX0_run_52 : decode cX0_run 52 = .ok (.getfield 93, 3) := by decide +kernel
theorem dX0_run_55 : decode cX0_run 55 = .ok (.iload 4, 2) := by decide +kernel
theorem dX0_run_57 : decode cX0_run 57 = .ok (.iaload, 1) := by decide +kernel
theorem dX0_run_58 : decode cX0_run 58 = .ok (.bipush 15, 2) := by decide +kernel
theorem dX0_run_60 : decode cX0_run 60 = .ok (.iand, 1) := by decide +kernel
theorem dX0_run_61 : decode cX0_run 61 = .ok (.istore 6, 2) := by decide +kernel
theorem dX0_run_63 : decode cX0_run 63 = .ok (.aload_n 1, 1) := by decide +kernel
theorem dX0_run_64 : decode cX0_run 64 = .ok (.getfield 93, 3) := by decide +kernel
theorem dX0_run_67 : decode cX0_run 67 = .ok (.iload 4, 2) := by decide +kernel
theorem dX0_run_69 : decode cX0_run 69 = .ok (.iaload, 1) := by decide +kernel
theorem dX0_run_70 : decode cX0_run 70 = .ok (.iconst 4, 1) := by decide +kernel
theorem dX0_run_71 : decode cX0_run 71 = .ok (.ishr, 1) := by decide +kernel
theorem dX0_run_72 : decode cX0_run 72 = .ok (.istore 7, 2) := by decide +kernel
theorem dX0_run_74 : decode cX0_run 74 = .ok (.iinc 4 1, 3) := by decide +kernel
theorem dX0_run_77 : decode cX0_run 77 = .ok (.iload 6, 2) := by decide +kernel
theorem dX0_run_79 : decode cX0_run 79 = .ok (.ifCond .ne 12, 3) := by decide +kernel
theorem dX0_run_82 : decode cX0_run 82 = .ok (.aload_n 0, 1) := by decide +kernel
theorem dX0_run_83 : decode cX0_run 83 = .ok (.iload 7, 2) := by decide +kernel
theorem dX0_run_85 : decode cX0_run 85 = .ok (.invokevirtual 96, 3) := by decide +kernel
theorem dX0_run_88 : decode cX0_run 88 = .ok (.goto 142, 3) := by decide +kernel
theorem dX0_run_91 : decode cX0_run 91 = .ok (.iload 6, 2) := by decide +kernel
theorem dX0_run_93 : decode cX0_run 93 = .ok (.iconst 1, 1) := by decide +kernel
theorem dX0_run_94 : decode cX0_run 94 = .ok (.if_icmp .ne 36, 3) := by decide +kernel
theorem dX0_run_97 : decode cX0_run 97 = .ok (.aload_n 0, 1) := by decide +kernel
theorem dX0_run_98 : decode cX0_run 98 = .ok (.iload 7, 2) := by decide +kernel
theorem dX0_run_100 : decode cX0_run 100 = .ok (.ifCond .lt 23, 3) := by decide +kernel
theorem dX0_run_103 : decode cX0_run 103 = .ok (.iload 7, 2) := by decide +kernel
theorem dX0_run_105 : decode cX0_run 105 = .ok (.aload_n 0, 1) := by decide +kernel
theorem dX0_run_106 : decode cX0_run 106 = .ok (.getfield 9, 3) := by decide +kernel
theorem dX0_run_109 : decode cX0_run 109 = .ok (.arraylength, 1) := by decide +kernel
theorem dX0_run_110 : decode cX0_run 110 = .ok (.if_icmp .ge 13, 3) := by decide +kernel
theorem dX0_run_113 : decode cX0_run 113 = .ok (.aload_n 0, 1) := by decide +kernel
theorem dX0_run_114 : decode cX0_run 114 = .ok (.getfield 9, 3) := by decide +kernel
theorem dX0_run_117 : decode cX0_run 117 = .ok (.iload 7, 2) := by decide +kernel
theorem dX0_run_119 : decode cX0_run 119 = .ok (.iaload, 1) := by decide +kernel
theorem dX0_run_120 : decode cX0_run 120 = .ok (.goto 4, 3) := by decide +kernel
theorem dX0_run_123 : decode cX0_run 123 = .ok (.iconst 0, 1) := by decide +kernel
theorem dX0_run_124 : decode cX0_run 124 = .ok (.invokevirtual 96, 3) := by decide +kernel
theorem dX0_run_127 : decode cX0_run 127 = .ok (.goto 103, 3) := by decide +kernel
theorem dX0_run_130 : decode cX0_run 130 = .ok (.iload 6, 2) := by decide +kernel
theorem dX0_run_132 : decode cX0_run 132 = .ok (.bipush 10, 2) := by decide +kernel
theorem dX0_run_134 : decode cX0_run 134 = .ok (.if_icmp .ne 16, 3) := by decide +kernel
theorem dX0_run_137 : decode cX0_run 137 = .ok (.aload_n 0, 1) := by decide +kernel
theorem dX0_run_138 : decode cX0_run 138 = .ok (.iconst 1, 1) := by decide +kernel
theorem dX0_run_139 : decode cX0_run 139 = .ok (.aload_n 0, 1) := by decide +kernel
theorem dX0_run_140 : decode cX0_run 140 = .ok (.invokevirtual 100, 3) := by decide +kernel
theorem dX0_run_143 : decode cX0_run 143 = .ok (.isub, 1) := by decide +kernel
theorem dX0_run_144 : decode cX0_run 144 = .ok (.invokevirtual 96, 3) := by decide +kernel
theorem dX0_run_147 : decode cX0_run 147 = .ok (.goto 83, 3) := by decide +kernel
theorem dX0_run_150 : decode cX0_run 150 = .ok (.iload 6, 2) := by decide +kernel
theorem dX0_run_152 : decode cX0_run 152 = .ok (.bipush 11, 2) := by decide +kernel
theorem dX0_run_154 : decode cX0_run 154 = .ok (.if_icmp .eq 10, 3) := by decide +kernel
theorem dX0_run_157 : decode cX0_run 157 = .ok (.iload 6, 2) := by decide +kernel
theorem dX0_run_159 : decode cX0_run 159 = .ok (.bipush 12, 2) := by decide +kernel
theorem dX0_run_161 : decode cX0_run 161 = .ok (.if_icmp .ne 47, 3) := by decide +kernel
theorem dX0_run_164 : decode cX0_run 164 = .ok (.aload_n 0, 1) := by decide +kernel
theorem dX0_run_165 : decode cX0_run 165 = .ok (.invokevirtual 100, 3) := by decide +kernel
theorem dX0_run_168 : decode cX0_run 168 = .ok (.istore 8, 2) := by decide +kernel
theorem dX0_run_170 : decode cX0_run 170 = .ok (.iload 8, 2) := by decide +kernel
theorem dX0_run_172 : decode cX0_run 172 = .ok (.ifCond .ne 7, 3) := by decide +kernel
theorem dX0_run_175 : decode cX0_run 175 = .ok (.iconst 1, 1) := by decide +kernel
theorem dX0_run_176 : decode cX0_run 176 = .ok (.goto 4, 3) := by decide +kernel
theorem dX0_run_179 : decode cX0_run 179 = .ok (.iconst 0, 1) := by decide +kernel
theorem dX0_run_180 : decode cX0_run 180 = .ok (.iload 6, 2) := by decide +kernel
theorem dX0_run_182 : decode cX0_run 182 = .ok (.bipush 11, 2) := by decide +kernel
theorem dX0_run_184 : decode cX0_run 184 = .ok (.if_icmp .ne 7, 3) := by decide +kernel
theorem dX0_run_187 : decode cX0_run 187 = .ok (.iconst 1, 1) := by decide +kernel
theorem dX0_run_188 : decode cX0_run 188 = .ok (.goto 4, 3) := by decide +kernel
theorem dX0_run_191 : decode cX0_run 191 = .ok (.iconst 0, 1) := by decide +kernel
theorem dX0_run_192 : decode cX0_run 192 = .ok (.if_icmp .ne 13, 3) := by decide +kernel
theorem dX0_run_195 : decode cX0_run 195 = .ok (.aload_n 0, 1) := by decide +kernel
theorem dX0_run_196 : decode cX0_run 196 = .ok (.iload 8, 2) := by decide +kernel
theorem dX0_run_198 : decode cX0_run 198 = .ok (.invokevirtual 96, 3) := by decide +kernel
theorem dX0_run_201 : decode cX0_run 201 = .ok (.iload 7, 2) := by decide +kernel
theorem dX0_run_203 : decode cX0_run 203 = .ok (.istore 4, 2) := by decide +kernel
theorem dX0_run_205 : decode cX0_run 205 = .ok (.goto 25, 3) := by decide +kernel
theorem dX0_run_208 : decode cX0_run 208 = .ok (.aload_n 0, 1) := by decide +kernel
theorem dX0_run_209 : decode cX0_run 209 = .ok (.invokevirtual 100, 3) := by decide +kernel
theorem dX0_run_212 : decode cX0_run 212 = .ok (.istore 8, 2) := by decide +kernel
theorem dX0_run_214 : decode cX0_run 214 = .ok (.aload_n 0, 1) := by decide +kernel
theorem dX0_run_215 : decode cX0_run 215 = .ok (.aload_n 0, 1) := by decide +kernel
theorem dX0_run_216 : decode cX0_run 216 = .ok (.iload 6, 2) := by decide +kernel
theorem dX0_run_218 : decode cX0_run 218 = .ok (.aload_n 0, 1) := by decide +kernel
theorem dX0_run_219 : decode cX0_run 219 = .ok (.invokevirtual 100, 3) := by decide +kernel
theorem dX0_run_222 : decode cX0_run 222 = .ok (.iload 8, 2) := by decide +kernel
theorem dX0_run_224 : decode cX0_run 224 = .ok (.invokevirtual 104, 3) := by decide +kernel
theorem dX0_run_227 : decode cX0_run 227 = .ok (.invokevirtual 96, 3) := by decide +kernel
theorem dX0_run_230 : decode cX0_run 230 = .ok (.iinc 5 1, 3) := by decide +kernel
theorem dX0_run_233 : decode cX0_run 233 = .ok (.goto (-217), 3) := by decide +kernel
theorem dX0_run_236 : decode cX0_run 236 = .ok (.aload_n 0, 1) := by decide +kernel
theorem dX0_run_237 : decode cX0_run 237 = .ok (.getfield 87, 3) := by decide +kernel
theorem dX0_run_240 : decode cX0_run 240 = .ok (.ifCond .eq 7, 3) := by decide +kernel
theorem dX0_run_243 : decode cX0_run 243 = .ok (.iconst 0, 1) := by decide +kernel
theorem dX0_run_244 : decode cX0_run 244 = .ok (.goto 7, 3) := by decide +kernel
theorem dX0_run_247 : decode cX0_run 247 = .ok (.aload_n 0, 1) := by decide +kernel
theorem dX0_run_248 : decode cX0_run 248 = .ok (.invokevirtual 100, 3) := by decide +kernel
theorem dX0_run_251 : decode cX0_run 251 = .ok (.ireturn, 1) := by decide +kernel
set_option maxRecDepth 100000 in
def f_s_run (k1 : Nat) (x2 : Int) (x3 : Int) (V : Nat → Nat → Int) (J : Nat → Nat → Int) (Rr : Nat → Nat → Nat) : (Int × (Nat → Nat → Int)) → Prop :=
  rdb (up2 V 69 2 0) fun V1 => rdb (up2 V1 69 3 0) fun V2 => lop3 (202) (fun rc1087 (z1085 : Int) (z1086 : Int) (V1087 : Nat → Nat → Int) => jnk (fun (un1357 : Unit) => rdb (V1087 69 3) fun z1358 => fct (0 ≤ z1358 ∧ z1358 ≤ 1) <| (if z1358 = 0 then calVX (fun i k : Nat => (69 ≤ i ∧ i ≤ 71)) V1087 (f_s_pop V1087 J Rr) fun z1360 V1360 => rtn (z1360, V1360) else rtn (0, V1087))) fun jf1357 => (if 200 ≤ z1085 then jf1357 (()) else (if z1086 < 0 then jf1357 (()) else (if x3 ≤ z1086 then jf1357 (()) else rdb (V1087 k1 1) fun z1364 => fct (0 ≤ z1364 ∧ z1364 ≤ 200) <| (if z1364 ≤ z1086 then jf1357 (()) else rdb (V1087 69 3) fun z1366 => fct (0 ≤ z1366 ∧ z1366 ≤ 1) <| (if ¬ z1366 = 0 then jf1357 (()) else rdb (V1087 (k1 + 1) z1086.toNat) fun z1368 => rdb (iAnd z1368 15) fun z1369 => fct (0 ≤ z1369 ∧ z1369 ≤ 15) <| rdb (iShr z1368 4) fun z1370 => jnk (fun (z1409 : Int) (V1410 : Nat → Nat → Int) => rc1087 (z1085 + 1) z1409 V1410) fun jf1410 => (if ¬ z1369 = 0 then (if ¬ z1369 = 1 then (if ¬ z1369 = 10 then (if z1369 = 11 then calVX (fun i k : Nat => (69 ≤ i ∧ i ≤ 71)) V1087 (f_s_pop V1087 J Rr) fun z1415 V1415 => jnk (fun (z1416 : Int) => jnk (fun (z1419 : Int) (V1420 : Nat → Nat → Int) => jf1410 z1419 V1420) fun jf1420 => (if ¬ z1416 = 1 then jf1420 (z1086 + 1) V1415 else calUX (fun i k : Nat => (69 ≤ i ∧ i ≤ 71)) V1415 (f_s_push z1415 V1415 J Rr) fun V1422 => jf1420 z1370 V1422)) fun jf1417 => (if ¬ z1415 = 0 then jf1417 0 else jf1417 1) else (if ¬ z1369 = 12 then calVX (fun i k : Nat => (69 ≤ i ∧ i ≤ 71)) V1087 (f_s_pop V1087 J Rr) fun z1425 V1425 => calVX (fun i k : Nat => (69 ≤ i ∧ i ≤ 71)) V1425 (f_s_pop V1425 J Rr) fun z1426 V1426 => calVX (fun i k : Nat => (69 ≤ i ∧ i ≤ 71)) V1426 (f_s_reckon z1369 z1426 z1425 V1426 J Rr) fun z1427 V1427 => calUX (fun i k : Nat => (69 ≤ i ∧ i ≤ 71)) V1427 (f_s_push z1427 V1427 J Rr) fun V1428 => jf1410 (z1086 + 1) V1428 else calVX (fun i k : Nat => (69 ≤ i ∧ i ≤ 71)) V1087 (f_s_pop V1087 J Rr) fun z1429 V1429 => jnk (fun (z1430 : Int) => jnk (fun (z1433 : Int) (V1434 : Nat → Nat → Int) => jf1410 z1433 V1434) fun jf1434 => (if ¬ z1430 = 0 then jf1434 (z1086 + 1) V1429 else calUX (fun i k : Nat => (69 ≤ i ∧ i ≤ 71)) V1429 (f_s_push z1429 V1429 J Rr) fun V1436 => jf1434 z1370 V1436)) fun jf1431 => (if ¬ z1429 = 0 then jf1431 0 else jf1431 1))) else calVX (fun i k : Nat => (69 ≤ i ∧ i ≤ 71)) V1087 (f_s_pop V1087 J Rr) fun z1438 V1438 => rdb (wr (-z1438 + 1)) fun z1439 => calUX (fun i k : Nat => (69 ≤ i ∧ i ≤ 71)) V1438 (f_s_push z1439 V1438 J Rr) fun V1440 => jf1410 (z1086 + 1) V1440) else jnk (fun (z1443 : Int) => calUX (fun i k : Nat => (69 ≤ i ∧ i ≤ 71)) V1087 (f_s_push z1443 V1087 J Rr) fun V1445 => jf1410 (z1086 + 1) V1445) fun jf1444 => (if z1370 < 0 then jf1444 0 else (if 26 ≤ z1370 then jf1444 0 else rdb (V1087 70 z1370.toNat) fun z1448 => jf1444 z1448))) else calUX (fun i k : Nat => (69 ≤ i ∧ i ≤ 71)) V1087 (f_s_push z1370 V1087 J Rr) fun V1449 => jf1410 (z1086 + 1) V1449))))))) 0 x2 V2
set_option maxHeartbeats 8000000 in
set_option maxRecDepth 100000 in
theorem s_run (l : Launch) (D : va_G) (cy : Nat → ClassId) (ad : Nat → Nat) (G : Nat → Nat → Int) (V J : Nat → Nat → Int) (Rr : Nat → Nat → Nat) (hI : XI G V) (hJ : VJ J) (hR : XR Rr) (k1 : Nat) (hk1 : isTx k1) (x2 : Int) (bx2 : -2147483648 ≤ x2 ∧ x2 ≤ 2147483647) (x3 : Int) (bx3 : -2147483648 ≤ x3 ∧ x3 ≤ 2147483647) : xMi l D (xTY cy) yX0_run cX0_run 9 (some .int) 1 23 0 0 [.ref (ad 69), .ref (ad k1), vI x2, vI x3] (XW cy ad V J Rr) (fun u : Nat → Nat → Int => XW cy ad u J Rr) (fun a (u : Nat → Nat → Int) => XI G u ∧ FB (fun i k : Nat => (69 ≤ i ∧ i ≤ 71)) V u ∧ (f_s_run k1 x2 x3 V J Rr) (a, u)) := by
  refine xMi.mk (lv0 := [(0, .ref (ad 69)), (1, .ref (ad k1)), (2, vI x2), (3, vI x3)]) (by decide) rfl (Nat.le_of_ble_eq_true rfl) (fun p e s m below meth c A C hr hnm hAe => ?_)
  have C : xC2 p s m _ meth c D A s.heap 9 cX0_run RX0 (xTY cy) := C
  have hB : FB (fun i k : Nat => (69 ≤ i ∧ i ≤ 71)) V V := FB.rf _ _
  have hF := Imp.of_eq (f_s_run.eq_def k1 x2 x3 V J Rr)
  refine x_aload_n C.1 dX0_run_0 0 rfl ?_
  refine x_iconst C.1 (n := 0) dX0_run_1 ?_
  refine x_putI C (N := 129) (i := 69) (by decide) rfl vc_X0 wx_X0 2 (by decide) wf_X0_84 tyX0 tyX0_ok nmX0 rfl (tyX0_ok 2 (by decide)) rfl dX0_run_2 rfl rfl ?_
  refine x_gV ?_
  intro V1 hV1
  have hI1 : XI G V1 := hI.up hV1 rfl (by decide) rfl
  have hB1 := hB.up hV1 (⟨by decide, by decide⟩)
  replace hF := hF.to (rdb_e (z := V1) hV1.symm)
  refine x_aload_n C.1 dX0_run_5 0 rfl ?_
  refine x_iconst C.1 (n := 0) dX0_run_6 ?_
  refine x_putI C (N := 129) (i := 69) (by decide) rfl vc_X0 wx_X0 3 (by decide) wf_X0_87 tyX0 tyX0_ok nmX0 rfl (tyX0_ok 3 (by decide)) rfl dX0_run_7 (by decide) (by decide) ?_
  refine x_gV ?_
  intro V2 hV2
  have hI2 : XI G V2 := hI1.up hV2 rfl (by decide) rfl
  have hB2 := hB1.up hV2 (⟨by decide, by decide⟩)
  replace hF := hF.to (rdb_e (z := V2) hV2.symm)
  refine x_iload_n C.1 dX0_run_10 2 rfl ?_
  refine x_istore C.1 (lv' := [(4, vI x2), (0, .ref (ad 69)), (1, .ref (ad k1)), (2, vI x2), (3, vI x3)]) dX0_run_11 (by decide) rfl ?_
  refine x_iconst C.1 (n := 0) dX0_run_13 ?_
  refine x_istore C.1 (lv' := [(5, vI 0), (4, vI x2), (0, .ref (ad 69)), (1, .ref (ad k1)), (2, vI x2), (3, vI x3)]) dX0_run_14 (by decide) rfl ?_
  obtain ⟨bd1087, hbd1087, hF⟩ := lop3_ex hF
  refine x_loop (I := fun x : Int × Int × (Nat → Nat → Int) => match x with | (z1085, z1086, V1087) => (0 ≤ z1085 ∧ z1085 ≤ 200) ∧ (-2147483648 ≤ z1086 ∧ z1086 ≤ 2147483647) ∧ XI G V1087 ∧ FB (fun i k : Nat => (69 ≤ i ∧ i ≤ 71)) V V1087 ∧ (∃ nf : Nat, (201 - z1085).toNat < nf ∧ Imp (lop3 nf bd1087 z1085 z1086 V1087) (f_s_run k1 x2 x3 V J Rr))) (μ := fun x : Int × Int × (Nat → Nat → Int) => match x with | (z1085, z1086, V1087) => (201 - z1085).toNat) (wsf := fun x : Int × Int × (Nat → Nat → Int) => match x with | (z1085, z1086, V1087) => XW cy ad V1087 J Rr) (lvf := fun x : Int × Int × (Nat → Nat → Int) => match x with | (z1085, z1086, V1087) => [(5, vI z1085), (4, vI z1086), (0, .ref (ad 69)), (1, .ref (ad k1)), (2, vI x2), (3, vI x3)]) (fun x hI1087x ih1087 => ?_) (0, x2, V2) ⟨⟨by decide, by decide⟩, ⟨by omega, by omega⟩, hI2, hB2, ⟨_, (by omega), hF⟩⟩ rfl rfl
  obtain ⟨z1085, z1086, V1087⟩ := x
  obtain ⟨bz1085, bz1086, hI1087, hB1087, nf1087, hn1087, hF⟩ := hI1087x
  try dsimp only
  obtain ⟨nf1087, rfl⟩ : ∃ mm, nf1087 = mm + 1 := ⟨nf1087 - 1, (Nat.succ_pred_eq_of_pos (Nat.lt_of_le_of_lt (Nat.zero_le _) hn1087)).symm⟩
  replace hF := hF.to (lop3_s hbd1087)
  refine x_iload C.1 dX0_run_16 0 rfl ?_
  refine x_sipush C.1 (n := 200) dX0_run_18 ?_
  obtain ⟨jf1357, hjf1357, hF⟩ := jn_ex hF
  refine x_join (I := fun un1357 : Unit => True ∧ Imp (jf1357 un1357) (f_s_run k1 x2 x3 V J Rr)) (wsf := fun un1357 : Unit => XW cy ad V1087 J Rr) (lvf := fun un1357 : Unit => [(5, vI z1085), (4, vI z1086), (0, .ref (ad 69)), (1, .ref (ad k1)), (2, vI x2), (3, vI x3)]) (stf := fun un1357 : Unit => []) 236 (fun un1357 hI1357x => ?_) (fun jn1357 => ?_)
  · obtain ⟨_, hF⟩ := hI1357x
    try dsimp only
    replace hF := hF.to (jn_s1 hjf1357)
    refine x_aload_n C.1 dX0_run_236 2 rfl ?_
    obtain ⟨z1358, ez1358, bz1358⟩ := hI1087.rd 69 3 (x := 0) (y := 1) rfl
    replace hF := hF.to (rdb_e (z := z1358) ez1358)
    replace hF := hF.fc bz1358
    refine x_getI C (N := 129) (i := 69) (by decide) rfl vc_X0 wx_X0 3 (by decide) wf_X0_87 rfl dX0_run_237 (a := z1358) ez1358 ?_
    refine x_if_eq C.1 (tgt := 247) dX0_run_240 (by decide) (by omega) (fun hc1359 => ?_) (fun hc1359 => ?_)
    · replace hF := hF.to (if_pos hc1359)
      refine x_aload_n C.1 dX0_run_247 2 rfl ?_
      refine x_callVi C (As := []) (rest := []) 69 (xw_at (N := 129) (i := 69) (by decide) rfl) vc_X0 (s_pop l D cy ad G V1087 J Rr hI1087 hJ hR ) (l1 := []) (l2 := []) (List.append_nil _).symm (w2 := fun u : Nat → Nat → Int => XW cy ad u J Rr) (fun _ => List.append_nil _) rfl wm_yX0_pop wn_X0 wl_X0_100 wi_yX0_pop we_yX0_pop hd_yX0_pop rfl ⟨Nat.le_of_ble_eq_true rfl, Nat.le_of_ble_eq_true rfl⟩ (Nat.le_of_ble_eq_true rfl) ⟨Nat.le_of_ble_eq_true rfl, Nat.le_of_ble_eq_true rfl⟩ dX0_run_248 (fun z1360 V1360 bz1360 h1360 => ?_)
      obtain ⟨hI1360, hBc1360, hFc1360⟩ := h1360
      replace hF := calVX_i hF hFc1360 hBc1360
      have hB1360 := hB1087.tr hBc1360 (fun i k h => (h))
      exact x_iret (S := (Nat → Nat → Int)) (post := (fun a (u : Nat → Nat → Int) => XI G u ∧ FB (fun i k : Nat => (69 ≤ i ∧ i ≤ 71)) V u ∧ (f_s_run k1 x2 x3 V J Rr) (a, u))) (w1 := (fun u : Nat → Nat → Int => XW cy ad u J Rr)) (a := z1360) C hr rfl dX0_run_251 (by omega) V1360 rfl ⟨hI1360, hB1360, hF _ rfl⟩
    · replace hF := hF.to (if_neg hc1359)
      refine x_iconst C.1 (n := 0) dX0_run_243 ?_
      refine x_goto C.1 (tgt := 251) dX0_run_244 (by decide) ?_
      exact x_iret (S := (Nat → Nat → Int)) (post := (fun a (u : Nat → Nat → Int) => XI G u ∧ FB (fun i k : Nat => (69 ≤ i ∧ i ≤ 71)) V u ∧ (f_s_run k1 x2 x3 V J Rr) (a, u))) (w1 := (fun u : Nat → Nat → Int => XW cy ad u J Rr)) (a := 0) C hr rfl dX0_run_251 (by decide) V1087 rfl ⟨hI1087, hB1087, hF _ rfl⟩
  · refine x_icmp_ge C.1 (tgt := 236) dX0_run_21 (by decide) (by omega) (by decide) (fun hc1361 => ?_) (fun hc1361 => ?_)
    · replace hF := hF.to (if_pos hc1361)
      exact jn1357 (()) ⟨trivial, hF⟩
    · replace hF := hF.to (if_neg hc1361)
      refine x_iload C.1 dX0_run_24 1 rfl ?_
      refine x_if_lt C.1 (tgt := 236) dX0_run_26 (by decide) (by omega) (fun hc1362 => ?_) (fun hc1362 => ?_)
      · replace hF := hF.to (if_pos hc1362)
        exact jn1357 (()) ⟨trivial, hF⟩
      · replace hF := hF.to (if_neg hc1362)
        refine x_iload C.1 dX0_run_29 1 rfl ?_
        refine x_iload_n C.1 dX0_run_31 5 rfl ?_
        refine x_icmp_ge C.1 (tgt := 236) dX0_run_32 (by decide) (by omega) (by omega) (fun hc1363 => ?_) (fun hc1363 => ?_)
        · replace hF := hF.to (if_pos hc1363)
          exact jn1357 (()) ⟨trivial, hF⟩
        · replace hF := hF.to (if_neg hc1363)
          refine x_iload C.1 dX0_run_35 1 rfl ?_
          refine x_aload_n C.1 dX0_run_37 3 rfl ?_
          obtain ⟨z1364, ez1364, bz1364⟩ := hI1087.rd k1 1 (x := 0) (y := 200) (rg_T hk1 1)
          replace hF := hF.to (rdb_e (z := z1364) ez1364)
          replace hF := hF.fc bz1364
          refine x_getI C (N := 129) (i := k1) (by omega) (xd_T hk1) vc_X9 wx_X9 1 (by decide) wf_X0_90 rfl dX0_run_38 (a := z1364) ez1364 ?_
          refine x_icmp_ge C.1 (tgt := 236) dX0_run_41 (by decide) (by omega) (by omega) (fun hc1365 => ?_) (fun hc1365 => ?_)
          · replace hF := hF.to (if_pos hc1365)
            exact jn1357 (()) ⟨trivial, hF⟩
          · replace hF := hF.to (if_neg hc1365)
            refine x_aload_n C.1 dX0_run_44 2 rfl ?_
            obtain ⟨z1366, ez1366, bz1366⟩ := hI1087.rd 69 3 (x := 0) (y := 1) rfl
            replace hF := hF.to (rdb_e (z := z1366) ez1366)
            replace hF := hF.fc bz1366
            refine x_getI C (N := 129) (i := 69) (by decide) rfl vc_X0 wx_X0 3 (by decide) wf_X0_87 rfl dX0_run_45 (a := z1366) ez1366 ?_
            refine x_if_ne C.1 (tgt := 236) dX0_run_48 (by decide) (by omega) (fun hc1367 => ?_) (fun hc1367 => ?_)
            · replace hF := hF.to (if_pos hc1367)
              exact jn1357 (()) ⟨trivial, hF⟩
            · replace hF := hF.to (if_neg (fun hh => hh hc1367))
              refine x_aload_n C.1 dX0_run_51 3 rfl ?_
              refine x_getA C (N := 129) (i := k1) (by omega) (xd_T hk1) vc_X9 wx_X9 0 (by decide) wf_X0_93 (a := k1 + 1) rfl dX0_run_52 ?_
              refine x_iload C.1 dX0_run_55 1 rfl ?_
              obtain ⟨z1368, ez1368, bz1368⟩ := hI1087.rd (k1 + 1) z1086.toNat (x := -2147483648) (y := 2147483647) (rg_T1 hk1 _)
              replace hF := hF.to (rdb_e (z := z1368) ez1368)
              refine x_iald C (N := 129) (i := k1 + 1) (q := z1086) (by omega) (xd_T1 hk1) (by omega) (by decide) dX0_run_57 (a := z1368) ez1368 ?_
              refine x_bipush C.1 (n := 15) dX0_run_58 ?_
              obtain ⟨z1369, hz1369, bz1369⟩ : ∃ z : Int, iAnd z1368 15 = z ∧ (0 ≤ z ∧ z ≤ 15) := ⟨_, rfl, iAnd_leB _ (by decide)⟩
              replace hF := hF.to (rdb_e (z := z1369) hz1369)
              replace hF := hF.fc bz1369
              refine x_iand C.1 (v := z1369) hz1369 dX0_run_60 ?_
              refine x_istore C.1 (lv' := [(6, vI z1369), (5, vI z1085), (4, vI z1086), (0, .ref (ad 69)), (1, .ref (ad k1)), (2, vI x2), (3, vI x3)]) dX0_run_61 (by decide) rfl ?_
              refine x_aload_n C.1 dX0_run_63 4 rfl ?_
              refine x_getA C (N := 129) (i := k1) (by omega) (xd_T hk1) vc_X9 wx_X9 0 (by decide) wf_X0_93 (a := k1 + 1) rfl dX0_run_64 ?_
              refine x_iload C.1 dX0_run_67 2 rfl ?_
              refine x_iald C (N := 129) (i := k1 + 1) (q := z1086) (by omega) (xd_T1 hk1) (by omega) (by decide) dX0_run_69 (a := z1368) ez1368 ?_
              refine x_iconst C.1 (n := 4) dX0_run_70 ?_
              obtain ⟨z1370, hz1370, bz1370⟩ : ∃ z : Int, iShr z1368 4 = z ∧ (-2147483648 ≤ z ∧ z ≤ 2147483647) := ⟨_, rfl, xi_r _⟩
              replace hF := hF.to (rdb_e (z := z1370) hz1370)
              refine x_ishr C.1 (v := z1370) hz1370 dX0_run_71 ?_
              refine x_istore C.1 (lv' := [(7, vI z1370), (6, vI z1369), (5, vI z1085), (4, vI z1086), (0, .ref (ad 69)), (1, .ref (ad k1)), (2, vI x2), (3, vI x3)]) dX0_run_72 (by decide) rfl ?_
              refine x_iinc C.1 (v := z1086 + 1) (lv' := [(4, vI (z1086 + 1)), (7, vI z1370), (6, vI z1369), (5, vI z1085), (0, .ref (ad 69)), (1, .ref (ad k1)), (2, vI x2), (3, vI x3)]) (by omega) dX0_run_74 3 rfl (by decide) rfl ?_
              refine x_iload C.1 dX0_run_77 2 rfl ?_
              obtain ⟨jf1410, hjf1410, hF⟩ := jn_ex hF
              refine x_join (I := fun x : Int × (Nat → Nat → Int) => match x with | (z1409, V1410) => (-2147483648 ≤ z1409 ∧ z1409 ≤ 2147483647) ∧ XI G V1410 ∧ FB (fun i k : Nat => (69 ≤ i ∧ i ≤ 71)) V V1410 ∧ Imp (jf1410 z1409 V1410) (f_s_run k1 x2 x3 V J Rr)) (wsf := fun x : Int × (Nat → Nat → Int) => match x with | (z1409, V1410) => XW cy ad V1410 J Rr) (lvf := fun x : Int × (Nat → Nat → Int) => match x with | (z1409, V1410) => [(4, vI z1409), (7, vI z1370), (6, vI z1369), (5, vI z1085), (0, .ref (ad 69)), (1, .ref (ad k1)), (2, vI x2), (3, vI x3)]) (stf := fun x : Int × (Nat → Nat → Int) => match x with | (z1409, V1410) => []) 230 (fun x hI1410x => ?_) (fun jn1410 => ?_)
              · obtain ⟨z1409, V1410⟩ := x
                obtain ⟨bz1409, hI1410, hB1410, hF⟩ := hI1410x
                try dsimp only
                replace hF := hF.to (jn_s2 hjf1410)
                refine x_iinc C.1 (v := z1085 + 1) (lv' := [(5, vI (z1085 + 1)), (4, vI z1409), (7, vI z1370), (6, vI z1369), (0, .ref (ad 69)), (1, .ref (ad k1)), (2, vI x2), (3, vI x3)]) (by omega) dX0_run_230 3 rfl (by decide) rfl ?_
                refine x_goto C.1 (tgt := 16) dX0_run_233 (by decide) ?_
                refine x_lv [(5, vI (z1085 + 1)), (4, vI z1409), (0, .ref (ad 69)), (1, .ref (ad k1)), (2, vI x2), (3, vI x3)] [0, 1, 4, 5, 6, 7] rfl ?_
                have hmu1087 : (201 - (z1085 + 1)).toNat < (201 - z1085).toNat := (by omega)
                exact ih1087 (z1085 + 1, z1409, V1410) ⟨⟨by omega, by omega⟩, ⟨by omega, by omega⟩, hI1410, hB1410, ⟨nf1087, Nat.lt_of_lt_of_le hmu1087 (Nat.le_of_lt_succ hn1087), hF⟩⟩ hmu1087
              · refine x_if_ne C.1 (tgt := 91) dX0_run_79 (by decide) (by omega) (fun hc1411 => ?_) (fun hc1411 => ?_)
                · replace hF := hF.to (if_pos hc1411)
                  refine x_iload C.1 dX0_run_91 2 rfl ?_
                  refine x_iconst C.1 (n := 1) dX0_run_93 ?_
                  refine x_icmp_ne C.1 (tgt := 130) dX0_run_94 (by decide) (by omega) (by decide) (fun hc1412 => ?_) (fun hc1412 => ?_)
                  · replace hF := hF.to (if_pos hc1412)
                    refine x_iload C.1 dX0_run_130 2 rfl ?_
                    refine x_bipush C.1 (n := 10) dX0_run_132 ?_
                    refine x_icmp_ne C.1 (tgt := 150) dX0_run_134 (by decide) (by omega) (by decide) (fun hc1413 => ?_) (fun hc1413 => ?_)
                    · replace hF := hF.to (if_pos hc1413)
                      refine x_iload C.1 dX0_run_150 2 rfl ?_
                      refine x_bipush C.1 (n := 11) dX0_run_152 ?_
                      refine x_icmp_eq C.1 (tgt := 164) dX0_run_154 (by decide) (by omega) (by decide) (fun hc1414 => ?_) (fun hc1414 => ?_)
                      · replace hF := hF.to (if_pos hc1414)
                        refine x_aload_n C.1 dX0_run_164 4 rfl ?_
                        refine x_callVi C (As := []) (rest := []) 69 (xw_at (N := 129) (i := 69) (by decide) rfl) vc_X0 (s_pop l D cy ad G V1087 J Rr hI1087 hJ hR ) (l1 := []) (l2 := []) (List.append_nil _).symm (w2 := fun u : Nat → Nat → Int => XW cy ad u J Rr) (fun _ => List.append_nil _) rfl wm_yX0_pop wn_X0 wl_X0_100 wi_yX0_pop we_yX0_pop hd_yX0_pop rfl ⟨Nat.le_of_ble_eq_true rfl, Nat.le_of_ble_eq_true rfl⟩ (Nat.le_of_ble_eq_true rfl) ⟨Nat.le_of_ble_eq_true rfl, Nat.le_of_ble_eq_true rfl⟩ dX0_run_165 (fun z1415 V1415 bz1415 h1415 => ?_)
                        obtain ⟨hI1415, hBc1415, hFc1415⟩ := h1415
                        replace hF := calVX_i hF hFc1415 hBc1415
                        have hB1415 := hB1087.tr hBc1415 (fun i k h => (h))
                        refine x_istore C.1 (lv' := [(8, vI z1415), (4, vI (z1086 + 1)), (7, vI z1370), (6, vI z1369), (5, vI z1085), (0, .ref (ad 69)), (1, .ref (ad k1)), (2, vI x2), (3, vI x3)]) dX0_run_168 (by decide) rfl ?_
                        refine x_iload C.1 dX0_run_170 0 rfl ?_
                        obtain ⟨jf1417, hjf1417, hF⟩ := jn_ex hF
                        refine x_join (I := fun z1416 : Int => (0 ≤ z1416 ∧ z1416 ≤ 1) ∧ Imp (jf1417 z1416) (f_s_run k1 x2 x3 V J Rr)) (wsf := fun z1416 : Int => XW cy ad V1415 J Rr) (lvf := fun z1416 : Int => [(8, vI z1415), (4, vI (z1086 + 1)), (7, vI z1370), (6, vI z1369), (5, vI z1085), (0, .ref (ad 69)), (1, .ref (ad k1)), (2, vI x2), (3, vI x3)]) (stf := fun z1416 : Int => [vI z1416]) 180 (fun z1416 hI1417x => ?_) (fun jn1417 => ?_)
                        · obtain ⟨bz1416, hF⟩ := hI1417x
                          try dsimp only
                          replace hF := hF.to (jn_s1 hjf1417)
                          refine x_iload C.1 dX0_run_180 3 rfl ?_
                          refine x_bipush C.1 (n := 11) dX0_run_182 ?_
                          refine x_icmp_ne_f C.1 (tgt := 191) dX0_run_184 (by decide) (by omega) (by decide) (by omega) ?_
                          refine x_iconst C.1 (n := 1) dX0_run_187 ?_
                          refine x_goto C.1 (tgt := 192) dX0_run_188 (by decide) ?_
                          obtain ⟨jf1420, hjf1420, hF⟩ := jn_ex hF
                          refine x_join (I := fun x : Int × (Nat → Nat → Int) => match x with | (z1419, V1420) => (-2147483648 ≤ z1419 ∧ z1419 ≤ 2147483647) ∧ XI G V1420 ∧ FB (fun i k : Nat => (69 ≤ i ∧ i ≤ 71)) V V1420 ∧ Imp (jf1420 z1419 V1420) (f_s_run k1 x2 x3 V J Rr)) (wsf := fun x : Int × (Nat → Nat → Int) => match x with | (z1419, V1420) => XW cy ad V1420 J Rr) (lvf := fun x : Int × (Nat → Nat → Int) => match x with | (z1419, V1420) => [(8, vI z1415), (4, vI z1419), (7, vI z1370), (6, vI z1369), (5, vI z1085), (0, .ref (ad 69)), (1, .ref (ad k1)), (2, vI x2), (3, vI x3)]) (stf := fun x : Int × (Nat → Nat → Int) => match x with | (z1419, V1420) => []) 205 (fun x hI1420x => ?_) (fun jn1420 => ?_)
                          · obtain ⟨z1419, V1420⟩ := x
                            obtain ⟨bz1419, hI1420, hB1420, hF⟩ := hI1420x
                            try dsimp only
                            replace hF := hF.to (jn_s2 hjf1420)
                            refine x_goto C.1 (tgt := 230) dX0_run_205 (by decide) ?_
                            refine x_lv [(4, vI z1419), (7, vI z1370), (6, vI z1369), (5, vI z1085), (0, .ref (ad 69)), (1, .ref (ad k1)), (2, vI x2), (3, vI x3)] [1, 2, 3, 4, 5, 6, 7, 8] rfl ?_
                            exact jn1410 (z1419, V1420) ⟨⟨by omega, by omega⟩, hI1420, hB1420, hF⟩
                          · refine x_icmp_ne C.1 (tgt := 205) dX0_run_192 (by decide) (by omega) (by decide) (fun hc1421 => ?_) (fun hc1421 => ?_)
                            · replace hF := hF.to (if_pos hc1421)
                              exact jn1420 (z1086 + 1, V1415) ⟨⟨by omega, by omega⟩, hI1415, hB1415, hF⟩
                            · replace hF := hF.to (if_neg (fun hh => hh hc1421))
                              refine x_aload_n C.1 dX0_run_195 5 rfl ?_
                              refine x_iload C.1 dX0_run_196 0 rfl ?_
                              refine x_callVv C (As := [vI z1415]) (rest := []) 69 (xw_at (N := 129) (i := 69) (by decide) rfl) vc_X0 (s_push l D cy ad G V1415 J Rr hI1415 hJ hR z1415 ⟨by omega, by omega⟩) (l1 := []) (l2 := []) (List.append_nil _).symm (w2 := fun u : Nat → Nat → Int => XW cy ad u J Rr) (fun _ => List.append_nil _) rfl wm_yX0_push wn_X0 wl_X0_96 wi_yX0_push we_yX0_push hd_yX0_push rfl ⟨Nat.le_of_ble_eq_true rfl, Nat.le_of_ble_eq_true rfl⟩ (Nat.le_of_ble_eq_true rfl) ⟨Nat.le_of_ble_eq_true rfl, Nat.le_of_ble_eq_true rfl⟩ dX0_run_198 (fun V1422 h1422 => ?_)
                              obtain ⟨hI1422, hBc1422, hFc1422⟩ := h1422
                              replace hF := calUX_i hF hFc1422 hBc1422
                              have hB1422 := hB1415.tr hBc1422 (fun i k h => (h))
                              refine x_iload C.1 dX0_run_201 2 rfl ?_
                              refine x_istore C.1 (lv' := [(4, vI z1370), (8, vI z1415), (7, vI z1370), (6, vI z1369), (5, vI z1085), (0, .ref (ad 69)), (1, .ref (ad k1)), (2, vI x2), (3, vI x3)]) dX0_run_203 (by decide) rfl ?_
                              refine x_lv [(8, vI z1415), (4, vI z1370), (7, vI z1370), (6, vI z1369), (5, vI z1085), (0, .ref (ad 69)), (1, .ref (ad k1)), (2, vI x2), (3, vI x3)] [1, 0, 2, 3, 4, 5, 6, 7, 8] rfl ?_
                              exact jn1420 (z1370, V1422) ⟨⟨by omega, by omega⟩, hI1422, hB1422, hF⟩
                        · refine x_if_ne C.1 (tgt := 179) dX0_run_172 (by decide) (by omega) (fun hc1423 => ?_) (fun hc1423 => ?_)
                          · replace hF := hF.to (if_pos hc1423)
                            refine x_iconst C.1 (n := 0) dX0_run_179 ?_
                            exact jn1417 0 ⟨⟨by decide, by decide⟩, hF⟩
                          · replace hF := hF.to (if_neg (fun hh => hh hc1423))
                            refine x_iconst C.1 (n := 1) dX0_run_175 ?_
                            refine x_goto C.1 (tgt := 180) dX0_run_176 (by decide) ?_
                            exact jn1417 1 ⟨⟨by decide, by decide⟩, hF⟩
                      · replace hF := hF.to (if_neg hc1414)
                        refine x_iload C.1 dX0_run_157 2 rfl ?_
                        refine x_bipush C.1 (n := 12) dX0_run_159 ?_
                        refine x_icmp_ne C.1 (tgt := 208) dX0_run_161 (by decide) (by omega) (by decide) (fun hc1424 => ?_) (fun hc1424 => ?_)
                        · replace hF := hF.to (if_pos hc1424)
                          refine x_aload_n C.1 dX0_run_208 4 rfl ?_
                          refine x_callVi C (As := []) (rest := []) 69 (xw_at (N := 129) (i := 69) (by decide) rfl) vc_X0 (s_pop l D cy ad G V1087 J Rr hI1087 hJ hR ) (l1 := []) (l2 := []) (List.append_nil _).symm (w2 := fun u : Nat → Nat → Int => XW cy ad u J Rr) (fun _ => List.append_nil _) rfl wm_yX0_pop wn_X0 wl_X0_100 wi_yX0_pop we_yX0_pop hd_yX0_pop rfl ⟨Nat.le_of_ble_eq_true rfl, Nat.le_of_ble_eq_true rfl⟩ (Nat.le_of_ble_eq_true rfl) ⟨Nat.le_of_ble_eq_true rfl, Nat.le_of_ble_eq_true rfl⟩ dX0_run_209 (fun z1425 V1425 bz1425 h1425 => ?_)
                          obtain ⟨hI1425, hBc1425, hFc1425⟩ := h1425
                          replace hF := calVX_i hF hFc1425 hBc1425
                          have hB1425 := hB1087.tr hBc1425 (fun i k h => (h))
                          refine x_istore C.1 (lv' := [(8, vI z1425), (4, vI (z1086 + 1)), (7, vI z1370), (6, vI z1369), (5, vI z1085), (0, .ref (ad 69)), (1, .ref (ad k1)), (2, vI x2), (3, vI x3)]) dX0_run_212 (by decide) rfl ?_
                          refine x_aload_n C.1 dX0_run_214 5 rfl ?_
                          refine x_aload_n C.1 dX0_run_215 5 rfl ?_
                          refine x_iload C.1 dX0_run_216 3 rfl ?_
                          refine x_aload_n C.1 dX0_run_218 5 rfl ?_
                          refine x_callVi C (As := []) (rest := [vI z1369, .ref (ad 69), .ref (ad 69)]) 69 (xw_at (N := 129) (i := 69) (by decide) rfl) vc_X0 (s_pop l D cy ad G V1425 J Rr hI1425 hJ hR ) (l1 := []) (l2 := []) (List.append_nil _).symm (w2 := fun u : Nat → Nat → Int => XW cy ad u J Rr) (fun _ => List.append_nil _) rfl wm_yX0_pop wn_X0 wl_X0_100 wi_yX0_pop we_yX0_pop hd_yX0_pop rfl ⟨Nat.le_of_ble_eq_true rfl, Nat.le_of_ble_eq_true rfl⟩ (Nat.le_of_ble_eq_true rfl) ⟨Nat.le_of_ble_eq_true rfl, Nat.le_of_ble_eq_true rfl⟩ dX0_run_219 (fun z1426 V1426 bz1426 h1426 => ?_)
                          obtain ⟨hI1426, hBc1426, hFc1426⟩ := h1426
                          replace hF := calVX_i hF hFc1426 hBc1426
                          have hB1426 := hB1425.tr hBc1426 (fun i k h => (h))
                          refine x_iload C.1 dX0_run_222 0 rfl ?_
                          refine x_callVi C (As := [vI z1369, vI z1426, vI z1425]) (rest := [.ref (ad 69)]) 69 (xw_at (N := 129) (i := 69) (by decide) rfl) vc_X0 (s_reckon l D cy ad G V1426 J Rr hI1426 hJ hR z1369 ⟨by omega, by omega⟩ z1426 ⟨by omega, by omega⟩ z1425 ⟨by omega, by omega⟩) (l1 := []) (l2 := []) (List.append_nil _).symm (w2 := fun u : Nat → Nat → Int => XW cy ad u J Rr) (fun _ => List.append_nil _) rfl wm_yX0_reckon wn_X0 wl_X0_104 wi_yX0_reckon we_yX0_reckon hd_yX0_reckon rfl ⟨Nat.le_of_ble_eq_true rfl, Nat.le_of_ble_eq_true rfl⟩ (Nat.le_of_ble_eq_true rfl) ⟨Nat.le_of_ble_eq_true rfl, Nat.le_of_ble_eq_true rfl⟩ dX0_run_224 (fun z1427 V1427 bz1427 h1427 => ?_)
                          obtain ⟨hI1427, hBc1427, hFc1427⟩ := h1427
                          replace hF := calVX_i hF hFc1427 hBc1427
                          have hB1427 := hB1426.tr hBc1427 (fun i k h => (h))
                          refine x_callVv C (As := [vI z1427]) (rest := []) 69 (xw_at (N := 129) (i := 69) (by decide) rfl) vc_X0 (s_push l D cy ad G V1427 J Rr hI1427 hJ hR z1427 ⟨by omega, by omega⟩) (l1 := []) (l2 := []) (List.append_nil _).symm (w2 := fun u : Nat → Nat → Int => XW cy ad u J Rr) (fun _ => List.append_nil _) rfl wm_yX0_push wn_X0 wl_X0_96 wi_yX0_push we_yX0_push hd_yX0_push rfl ⟨Nat.le_of_ble_eq_true rfl, Nat.le_of_ble_eq_true rfl⟩ (Nat.le_of_ble_eq_true rfl) ⟨Nat.le_of_ble_eq_true rfl, Nat.le_of_ble_eq_true rfl⟩ dX0_run_227 (fun V1428 h1428 => ?_)
                          obtain ⟨hI1428, hBc1428, hFc1428⟩ := h1428
                          replace hF := calUX_i hF hFc1428 hBc1428
                          have hB1428 := hB1427.tr hBc1428 (fun i k h => (h))
                          refine x_lv [(4, vI (z1086 + 1)), (7, vI z1370), (6, vI z1369), (5, vI z1085), (0, .ref (ad 69)), (1, .ref (ad k1)), (2, vI x2), (3, vI x3)] [1, 2, 3, 4, 5, 6, 7, 8] rfl ?_
                          exact jn1410 (z1086 + 1, V1428) ⟨⟨by omega, by omega⟩, hI1428, hB1428, hF⟩
                        · replace hF := hF.to (if_neg (fun hh => hh hc1424))
                          refine x_aload_n C.1 dX0_run_164 4 rfl ?_
                          refine x_callVi C (As := []) (rest := []) 69 (xw_at (N := 129) (i := 69) (by decide) rfl) vc_X0 (s_pop l D cy ad G V1087 J Rr hI1087 hJ hR ) (l1 := []) (l2 := []) (List.append_nil _).symm (w2 := fun u : Nat → Nat → Int => XW cy ad u J Rr) (fun _ => List.append_nil _) rfl wm_yX0_pop wn_X0 wl_X0_100 wi_yX0_pop we_yX0_pop hd_yX0_pop rfl ⟨Nat.le_of_ble_eq_true rfl, Nat.le_of_ble_eq_true rfl⟩ (Nat.le_of_ble_eq_true rfl) ⟨Nat.le_of_ble_eq_true rfl, Nat.le_of_ble_eq_true rfl⟩ dX0_run_165 (fun z1429 V1429 bz1429 h1429 => ?_)
                          obtain ⟨hI1429, hBc1429, hFc1429⟩ := h1429
                          replace hF := calVX_i hF hFc1429 hBc1429
                          have hB1429 := hB1087.tr hBc1429 (fun i k h => (h))
                          refine x_istore C.1 (lv' := [(8, vI z1429), (4, vI (z1086 + 1)), (7, vI z1370), (6, vI z1369), (5, vI z1085), (0, .ref (ad 69)), (1, .ref (ad k1)), (2, vI x2), (3, vI x3)]) dX0_run_168 (by decide) rfl ?_
                          refine x_iload C.1 dX0_run_170 0 rfl ?_
                          obtain ⟨jf1431, hjf1431, hF⟩ := jn_ex hF
                          refine x_join (I := fun z1430 : Int => (0 ≤ z1430 ∧ z1430 ≤ 1) ∧ Imp (jf1431 z1430) (f_s_run k1 x2 x3 V J Rr)) (wsf := fun z1430 : Int => XW cy ad V1429 J Rr) (lvf := fun z1430 : Int => [(8, vI z1429), (4, vI (z1086 + 1)), (7, vI z1370), (6, vI z1369), (5, vI z1085), (0, .ref (ad 69)), (1, .ref (ad k1)), (2, vI x2), (3, vI x3)]) (stf := fun z1430 : Int => [vI z1430]) 180 (fun z1430 hI1431x => ?_) (fun jn1431 => ?_)
                          · obtain ⟨bz1430, hF⟩ := hI1431x
                            try dsimp only
                            replace hF := hF.to (jn_s1 hjf1431)
                            refine x_iload C.1 dX0_run_180 3 rfl ?_
                            refine x_bipush C.1 (n := 11) dX0_run_182 ?_
                            refine x_icmp_ne_t C.1 (tgt := 191) dX0_run_184 (by decide) (by omega) (by decide) (by omega) ?_
                            refine x_iconst C.1 (n := 0) dX0_run_191 ?_
                            obtain ⟨jf1434, hjf1434, hF⟩ := jn_ex hF
                            refine x_join (I := fun x : Int × (Nat → Nat → Int) => match x with | (z1433, V1434) => (-2147483648 ≤ z1433 ∧ z1433 ≤ 2147483647) ∧ XI G V1434 ∧ FB (fun i k : Nat => (69 ≤ i ∧ i ≤ 71)) V V1434 ∧ Imp (jf1434 z1433 V1434) (f_s_run k1 x2 x3 V J Rr)) (wsf := fun x : Int × (Nat → Nat → Int) => match x with | (z1433, V1434) => XW cy ad V1434 J Rr) (lvf := fun x : Int × (Nat → Nat → Int) => match x with | (z1433, V1434) => [(8, vI z1429), (4, vI z1433), (7, vI z1370), (6, vI z1369), (5, vI z1085), (0, .ref (ad 69)), (1, .ref (ad k1)), (2, vI x2), (3, vI x3)]) (stf := fun x : Int × (Nat → Nat → Int) => match x with | (z1433, V1434) => []) 205 (fun x hI1434x => ?_) (fun jn1434 => ?_)
                            · obtain ⟨z1433, V1434⟩ := x
                              obtain ⟨bz1433, hI1434, hB1434, hF⟩ := hI1434x
                              try dsimp only
                              replace hF := hF.to (jn_s2 hjf1434)
                              refine x_goto C.1 (tgt := 230) dX0_run_205 (by decide) ?_
                              refine x_lv [(4, vI z1433), (7, vI z1370), (6, vI z1369), (5, vI z1085), (0, .ref (ad 69)), (1, .ref (ad k1)), (2, vI x2), (3, vI x3)] [1, 2, 3, 4, 5, 6, 7, 8] rfl ?_
                              exact jn1410 (z1433, V1434) ⟨⟨by omega, by omega⟩, hI1434, hB1434, hF⟩
                            · refine x_icmp_ne C.1 (tgt := 205) dX0_run_192 (by decide) (by omega) (by decide) (fun hc1435 => ?_) (fun hc1435 => ?_)
                              · replace hF := hF.to (if_pos hc1435)
                                exact jn1434 (z1086 + 1, V1429) ⟨⟨by omega, by omega⟩, hI1429, hB1429, hF⟩
                              · replace hF := hF.to (if_neg (fun hh => hh hc1435))
                                refine x_aload_n C.1 dX0_run_195 5 rfl ?_
                                refine x_iload C.1 dX0_run_196 0 rfl ?_
                                refine x_callVv C (As := [vI z1429]) (rest := []) 69 (xw_at (N := 129) (i := 69) (by decide) rfl) vc_X0 (s_push l D cy ad G V1429 J Rr hI1429 hJ hR z1429 ⟨by omega, by omega⟩) (l1 := []) (l2 := []) (List.append_nil _).symm (w2 := fun u : Nat → Nat → Int => XW cy ad u J Rr) (fun _ => List.append_nil _) rfl wm_yX0_push wn_X0 wl_X0_96 wi_yX0_push we_yX0_push hd_yX0_push rfl ⟨Nat.le_of_ble_eq_true rfl, Nat.le_of_ble_eq_true rfl⟩ (Nat.le_of_ble_eq_true rfl) ⟨Nat.le_of_ble_eq_true rfl, Nat.le_of_ble_eq_true rfl⟩ dX0_run_198 (fun V1436 h1436 => ?_)
                                obtain ⟨hI1436, hBc1436, hFc1436⟩ := h1436
                                replace hF := calUX_i hF hFc1436 hBc1436
                                have hB1436 := hB1429.tr hBc1436 (fun i k h => (h))
                                refine x_iload C.1 dX0_run_201 2 rfl ?_
                                refine x_istore C.1 (lv' := [(4, vI z1370), (8, vI z1429), (7, vI z1370), (6, vI z1369), (5, vI z1085), (0, .ref (ad 69)), (1, .ref (ad k1)), (2, vI x2), (3, vI x3)]) dX0_run_203 (by decide) rfl ?_
                                refine x_lv [(8, vI z1429), (4, vI z1370), (7, vI z1370), (6, vI z1369), (5, vI z1085), (0, .ref (ad 69)), (1, .ref (ad k1)), (2, vI x2), (3, vI x3)] [1, 0, 2, 3, 4, 5, 6, 7, 8] rfl ?_
                                exact jn1434 (z1370, V1436) ⟨⟨by omega, by omega⟩, hI1436, hB1436, hF⟩
                          · refine x_if_ne C.1 (tgt := 179) dX0_run_172 (by decide) (by omega) (fun hc1437 => ?_) (fun hc1437 => ?_)
                            · replace hF := hF.to (if_pos hc1437)
                              refine x_iconst C.1 (n := 0) dX0_run_179 ?_
                              exact jn1431 0 ⟨⟨by decide, by decide⟩, hF⟩
                            · replace hF := hF.to (if_neg (fun hh => hh hc1437))
                              refine x_iconst C.1 (n := 1) dX0_run_175 ?_
                              refine x_goto C.1 (tgt := 180) dX0_run_176 (by decide) ?_
                              exact jn1431 1 ⟨⟨by decide, by decide⟩, hF⟩
                    · replace hF := hF.to (if_neg (fun hh => hh hc1413))
                      refine x_aload_n C.1 dX0_run_137 4 rfl ?_
                      refine x_iconst C.1 (n := 1) dX0_run_138 ?_
                      refine x_aload_n C.1 dX0_run_139 4 rfl ?_
                      refine x_callVi C (As := []) (rest := [vI 1, .ref (ad 69)]) 69 (xw_at (N := 129) (i := 69) (by decide) rfl) vc_X0 (s_pop l D cy ad G V1087 J Rr hI1087 hJ hR ) (l1 := []) (l2 := []) (List.append_nil _).symm (w2 := fun u : Nat → Nat → Int => XW cy ad u J Rr) (fun _ => List.append_nil _) rfl wm_yX0_pop wn_X0 wl_X0_100 wi_yX0_pop we_yX0_pop hd_yX0_pop rfl ⟨Nat.le_of_ble_eq_true rfl, Nat.le_of_ble_eq_true rfl⟩ (Nat.le_of_ble_eq_true rfl) ⟨Nat.le_of_ble_eq_true rfl, Nat.le_of_ble_eq_true rfl⟩ dX0_run_140 (fun z1438 V1438 bz1438 h1438 => ?_)
                      obtain ⟨hI1438, hBc1438, hFc1438⟩ := h1438
                      replace hF := calVX_i hF hFc1438 hBc1438
                      have hB1438 := hB1087.tr hBc1438 (fun i k h => (h))
                      refine x_isub C.1 (v := -z1438 + 1) (by omega) dX0_run_143 ?_
                      refine x_wrapg ?_
                      intro z1439 bz1439 ew1439
                      replace hF := hF.to (rdb_e (z := z1439) ew1439.symm)
                      refine x_callVv C (As := [vI z1439]) (rest := []) 69 (xw_at (N := 129) (i := 69) (by decide) rfl) vc_X0 (s_push l D cy ad G V1438 J Rr hI1438 hJ hR z1439 ⟨by omega, by omega⟩) (l1 := []) (l2 := []) (List.append_nil _).symm (w2 := fun u : Nat → Nat → Int => XW cy ad u J Rr) (fun _ => List.append_nil _) rfl wm_yX0_push wn_X0 wl_X0_96 wi_yX0_push we_yX0_push hd_yX0_push rfl ⟨Nat.le_of_ble_eq_true rfl, Nat.le_of_ble_eq_true rfl⟩ (Nat.le_of_ble_eq_true rfl) ⟨Nat.le_of_ble_eq_true rfl, Nat.le_of_ble_eq_true rfl⟩ dX0_run_144 (fun V1440 h1440 => ?_)
                      obtain ⟨hI1440, hBc1440, hFc1440⟩ := h1440
                      replace hF := calUX_i hF hFc1440 hBc1440
                      have hB1440 := hB1438.tr hBc1440 (fun i k h => (h))
                      refine x_goto C.1 (tgt := 230) dX0_run_147 (by decide) ?_
                      exact jn1410 (z1086 + 1, V1440) ⟨⟨by omega, by omega⟩, hI1440, hB1440, hF⟩
                  · replace hF := hF.to (if_neg (fun hh => hh hc1412))
                    refine x_aload_n C.1 dX0_run_97 4 rfl ?_
                    refine x_iload C.1 dX0_run_98 1 rfl ?_
                    obtain ⟨jf1444, hjf1444, hF⟩ := jn_ex hF
                    refine x_join (I := fun z1443 : Int => (-2147483648 ≤ z1443 ∧ z1443 ≤ 2147483647) ∧ Imp (jf1444 z1443) (f_s_run k1 x2 x3 V J Rr)) (wsf := fun z1443 : Int => XW cy ad V1087 J Rr) (lvf := fun z1443 : Int => [(4, vI (z1086 + 1)), (7, vI z1370), (6, vI z1369), (5, vI z1085), (0, .ref (ad 69)), (1, .ref (ad k1)), (2, vI x2), (3, vI x3)]) (stf := fun z1443 : Int => [vI z1443, .ref (ad 69)]) 124 (fun z1443 hI1444x => ?_) (fun jn1444 => ?_)
                    · obtain ⟨bz1443, hF⟩ := hI1444x
                      try dsimp only
                      replace hF := hF.to (jn_s1 hjf1444)
                      refine x_callVv C (As := [vI z1443]) (rest := []) 69 (xw_at (N := 129) (i := 69) (by decide) rfl) vc_X0 (s_push l D cy ad G V1087 J Rr hI1087 hJ hR z1443 ⟨by omega, by omega⟩) (l1 := []) (l2 := []) (List.append_nil _).symm (w2 := fun u : Nat → Nat → Int => XW cy ad u J Rr) (fun _ => List.append_nil _) rfl wm_yX0_push wn_X0 wl_X0_96 wi_yX0_push we_yX0_push hd_yX0_push rfl ⟨Nat.le_of_ble_eq_true rfl, Nat.le_of_ble_eq_true rfl⟩ (Nat.le_of_ble_eq_true rfl) ⟨Nat.le_of_ble_eq_true rfl, Nat.le_of_ble_eq_true rfl⟩ dX0_run_124 (fun V1445 h1445 => ?_)
                      obtain ⟨hI1445, hBc1445, hFc1445⟩ := h1445
                      replace hF := calUX_i hF hFc1445 hBc1445
                      have hB1445 := hB1087.tr hBc1445 (fun i k h => (h))
                      refine x_goto C.1 (tgt := 230) dX0_run_127 (by decide) ?_
                      exact jn1410 (z1086 + 1, V1445) ⟨⟨by omega, by omega⟩, hI1445, hB1445, hF⟩
                    · refine x_if_lt C.1 (tgt := 123) dX0_run_100 (by decide) (by omega) (fun hc1446 => ?_) (fun hc1446 => ?_)
                      · replace hF := hF.to (if_pos hc1446)
                        refine x_iconst C.1 (n := 0) dX0_run_123 ?_
                        exact jn1444 0 ⟨⟨by decide, by decide⟩, hF⟩
                      · replace hF := hF.to (if_neg hc1446)
                        refine x_iload C.1 dX0_run_103 1 rfl ?_
                        refine x_aload_n C.1 dX0_run_105 4 rfl ?_
                        refine x_getA C (N := 129) (i := 69) (by decide) rfl vc_X0 wx_X0 0 (by decide) wf_X0_9 (a := 70) rfl dX0_run_106 ?_
                        refine x_alenI C (N := 129) (i := 70) (t := 0) rfl (by decide) rfl dX0_run_109 ?_
                        refine x_icmp_ge C.1 (tgt := 123) dX0_run_110 (by decide) (by omega) (by decide) (fun hc1447 => ?_) (fun hc1447 => ?_)
                        · replace hF := hF.to (if_pos hc1447)
                          refine x_iconst C.1 (n := 0) dX0_run_123 ?_
                          exact jn1444 0 ⟨⟨by decide, by decide⟩, hF⟩
                        · replace hF := hF.to (if_neg hc1447)
                          refine x_aload_n C.1 dX0_run_113 4 rfl ?_
                          refine x_getA C (N := 129) (i := 69) (by decide) rfl vc_X0 wx_X0 0 (by decide) wf_X0_9 (a := 70) rfl dX0_run_114 ?_
                          refine x_iload C.1 dX0_run_117 1 rfl ?_
                          obtain ⟨z1448, ez1448, bz1448⟩ := hI1087.rd 70 z1370.toNat (x := -2147483648) (y := 2147483647) rfl
                          replace hF := hF.to (rdb_e (z := z1448) ez1448)
                          refine x_iald C (N := 129) (i := 70) (q := z1370) (by decide) rfl (by omega) (by decide) dX0_run_119 (a := z1448) ez1448 ?_
                          refine x_goto C.1 (tgt := 124) dX0_run_120 (by decide) ?_
                          exact jn1444 z1448 ⟨⟨by omega, by omega⟩, hF⟩
                · replace hF := hF.to (if_neg (fun hh => hh hc1411))
                  refine x_aload_n C.1 dX0_run_82 4 rfl ?_
                  refine x_iload C.1 dX0_run_83 1 rfl ?_
                  refine x_callVv C (As := [vI z1370]) (rest := []) 69 (xw_at (N := 129) (i := 69) (by decide) rfl) vc_X0 (s_push l D cy ad G V1087 J Rr hI1087 hJ hR z1370 ⟨by omega, by omega⟩) (l1 := []) (l2 := []) (List.append_nil _).symm (w2 := fun u : Nat → Nat → Int => XW cy ad u J Rr) (fun _ => List.append_nil _) rfl wm_yX0_push wn_X0 wl_X0_96 wi_yX0_push we_yX0_push hd_yX0_push rfl ⟨Nat.le_of_ble_eq_true rfl, Nat.le_of_ble_eq_true rfl⟩ (Nat.le_of_ble_eq_true rfl) ⟨Nat.le_of_ble_eq_true rfl, Nat.le_of_ble_eq_true rfl⟩ dX0_run_85 (fun V1449 h1449 => ?_)
                  obtain ⟨hI1449, hBc1449, hFc1449⟩ := h1449
                  replace hF := calUX_i hF hFc1449 hBc1449
                  have hB1449 := hB1087.tr hBc1449 (fun i k h => (h))
                  refine x_goto C.1 (tgt := 230) dX0_run_88 (by decide) ?_
                  exact jn1410 (z1086 + 1, V1449) ⟨⟨by omega, by omega⟩, hI1449, hB1449, hF⟩
theorem hd_yX0_run : yX0_run.cls ≠ "java/lang/invoke/MethodHandle" ∧ yX0_run.cls ≠ "java/lang/invoke/VarHandle" ∧ (parseMethodDescriptor yX0_run.desc).map (fun d => d.parameters.length) = some 3 := by decide +kernel
theorem dX0_ask_0 : decode cX0_ask 0 = .ok (.iconst 0, 1) := by decide +kernel
theorem dX0_ask_1 : decode cX0_ask 1 = .ok (.istore 4, 2) := by decide +kernel
theorem dX0_ask_3 : decode cX0_ask 3 = .ok (.iload 4, 2) := by decide +kernel
theorem dX0_ask_5 : decode cX0_ask 5 = .ok (.aload_n 1, 1) := by decide +kernel
theorem dX0_ask_6 : decode cX0_ask 6 = .ok (.getfield 57, 3) := by decide +kernel
theorem dX0_ask_9 : decode cX0_ask 9 = .ok (.if_icmp .ge 83, 3) := by decide +kernel
theorem dX0_ask_12 : decode cX0_ask 12 = .ok (.iload 4, 2) := by decide +kernel
theorem dX0_ask_14 : decode cX0_ask 14 = .ok (.bipush 14, 2) := by decide +kernel
theorem dX0_ask_16 : decode cX0_ask 16 = .ok (.if_icmp .ge 76, 3) := by decide +kernel
theorem dX0_ask_19 : decode cX0_ask 19 = .ok (.aload_n 1, 1) := by decide +kernel
theorem dX0_ask_20 : decode cX0_ask 20 = .ok (.getfield 62, 3) := by decide +kernel
theorem dX0_ask_23 : decode cX0_ask 23 = .ok (.iload 4, 2) := by decide +kernel
theorem dX0_ask_25 : decode cX0_ask 25 = .ok (.caload, 1) := by decide +kernel
theorem dX0_ask_26 : decode cX0_ask 26 = .ok (.iload_n 2, 1) := by decide +kernel
theorem dX0_ask_27 : decode cX0_ask 27 = .ok (.if_icmp .ne 59, 3) := by decide +kernel
theorem dX0_ask_30 : decode cX0_ask 30 = .ok (.aload_n 0, 1) := by decide +kernel
theorem dX0_ask_31 : decode cX0_ask 31 = .ok (.aload_n 1, 1) := by decide +kernel
theorem dX0_ask_32 : decode cX0_ask 32 = .ok (.aload_n 1, 1) := by decide +kernel
theorem dX0_ask_33 : decode cX0_ask 33 = .ok (.getfield 65, 3) := by decide +kernel
theorem dX0_ask_36 : decode cX0_ask 36 = .ok (.iload 4, 2) := by decide +kernel
theorem dX0_ask_38 : decode cX0_ask 38 = .ok (.iaload, 1) := by decide +kernel
theorem dX0_ask_39 : decode cX0_ask 39 = .ok (.aload_n 1, 1) := by decide +kernel
theorem dX0_ask_40 : decode cX0_ask 40 = .ok (.getfield 68, 3) := by decide +kernel
theorem dX0_ask_43 : decode cX0_ask 43 = .ok (.iload 4, 2) := by decide +kernel
theorem dX0_ask_45 : decode cX0_ask 45 = .ok (.iconst 1, 1) := by decide +kernel
theorem dX0_ask_46 : decode cX0_ask 46 = .ok (.iadd, 1) := by decide +kernel
theorem dX0_ask_47 : decode cX0_ask 47 = .ok (.iaload, 1) := by decide +kernel
theorem dX0_ask_48 : decode cX0_ask 48 = .ok (.invokevirtual 71, 3) := by decide +kernel
theorem dX0_ask_51 : decode cX0_ask 51 = .ok (.ifCond .eq 35, 3) := by decide +kernel
theorem dX0_ask_54 : decode cX0_ask 54 = .ok (.aload_n 0, 1) := by decide +kernel
theorem dX0_ask_55 : decode cX0_ask 55 = .ok (.aload_n 1, 1) := by decide +kernel
theorem dX0_ask_56 : decode cX0_ask 56 = .ok (.aload_n 1, 1) := by decide +kernel
theorem dX0_ask_57 : decode cX0_ask 57 = .ok (.getfield 68, 3) := by decide +kernel
theorem dX0_ask_60 : decode cX0_ask 60 = .ok (.iload 4, 2) := by decide +kernel
theorem dX0_ask_62 : decode cX0_ask 62 = .ok (.iaload, 1) := by decide +kernel
theorem dX0_ask_63 : decode cX0_ask 63 = .ok (.aload_n 1, 1) := by decide +kernel
theorem dX0_ask_64 : decode cX0_ask 64 = .ok (.getfield 65, 3) := by decide +kernel
theorem dX0_ask_67 : decode cX0_ask 67 = .ok (.iload 4, 2) := by decide +kernel
theorem dX0_ask_69 : decode cX0_ask 69 = .ok (.iaload, 1) := by decide +kernel
theorem dX0_ask_70 : decode cX0_ask 70 = .ok (.invokevirtual 71, 3) := by decide +kernel
theorem dX0_ask_73 : decode cX0_ask 73 = .ok (.istore 5, 2) := by decide +kernel
theorem dX0_ask_75 : decode cX0_ask 75 = .ok (.iconst 0, 1) := by decide +kernel
theorem dX0_ask_76 : decode cX0_ask 76 = .ok (.iload_n 3, 1) := by decide +kernel
theorem dX0_ask_77 : decode cX0_ask 77 = .ok (.iload 5, 2) := by decide +kernel
theorem dX0_ask_79 : decode cX0_ask 79 = .ok (.invokestatic 75, 3) := by decide +kernel
theorem dX0_ask_82 : decode cX0_ask 82 = .ok (.invokestatic 81, 3) := by decide +kernel
theorem dX0_ask_85 : decode cX0_ask 85 = .ok (.ireturn, 1) := by decide +kernel
theorem dX0_ask_86 : decode cX0_ask 86 = .ok (.iinc 4 1, 3) := by decide +kernel
theorem dX0_ask_89 : decode cX0_ask 89 = .ok (.goto (-86), 3) := by decide +kernel
theorem dX0_ask_92 : decode cX0_ask 92 = .ok (.iconst 0, 1) := by decide +kernel
theorem dX0_ask_93 : decode cX0_ask 93 = .ok (.ireturn, 1) := by decide +kernel
set_option maxRecDepth 100000 in
def f_s_ask (k1 : Nat) (x2 : Int) (x3 : Int) (V : Nat → Nat → Int) (J : Nat → Nat → Int) (Rr : Nat → Nat → Nat) : (Int × (Nat → Nat → Int)) → Prop :=
  lop2 (16) (fun rc85 (z84 : Int) (V85 : Nat → Nat → Int) => rdb (V85 k1 5) fun z99 => fct (0 ≤ z99 ∧ z99 ≤ 14) <| (if z99 ≤ z84 then rtn (0, V85) else rdb (V85 (k1 + 2) z84.toNat) fun z101 => fct (0 ≤ z101 ∧ z101 ≤ 65535) <| (if ¬ z101 = x2 then rc85 (z84 + 1) V85 else rdb (V85 (k1 + 4) z84.toNat) fun z103 => rdb (V85 (k1 + 3) ((z84 + 1).toNat)) fun z104 => calVX (fun i k : Nat => (69 ≤ i ∧ i ≤ 71)) V85 (f_s_run k1 z103 z104 V85 J Rr) fun z105 V105 => (if z105 = 0 then rc85 (z84 + 1) V105 else rdb (V105 (k1 + 3) z84.toNat) fun z107 => rdb (V105 (k1 + 4) z84.toNat) fun z108 => calVX (fun i k : Nat => (69 ≤ i ∧ i ≤ 71)) V105 (f_s_run k1 z107 z108 V105 J Rr) fun z109 V109 => rdb (min x3 z109) fun z110 => fct (-2147483648 ≤ z110 ∧ z110 ≤ 999) <| rdb (max 0 z110) fun z111 => fct (0 ≤ z111 ∧ z111 ≤ 999) <| rtn (z111, V109))))) 0 V
set_option maxHeartbeats 8000000 in
set_option maxRecDepth 100000 in
theorem s_ask (l : Launch) (D : va_G) (cy : Nat → ClassId) (ad : Nat → Nat) (G : Nat → Nat → Int) (V J : Nat → Nat → Int) (Rr : Nat → Nat → Nat) (hI : XI G V) (hJ : VJ J) (hR : XR Rr) (k1 : Nat) (hk1 : isTx k1) (x2 : Int) (bx2 : 0 ≤ x2 ∧ x2 ≤ 65535) (x3 : Int) (bx3 : 0 ≤ x3 ∧ x3 ≤ 999) : xMi l D (xTY cy) yX0_ask cX0_ask 6 (some .int) 2 51 0 0 [.ref (ad 69), .ref (ad k1), vI x2, vI x3] (XW cy ad V J Rr) (fun u : Nat → Nat → Int => XW cy ad u J Rr) (fun a (u : Nat → Nat → Int) => XI G u ∧ (0 ≤ a ∧ a ≤ 999) ∧ FB (fun i k : Nat => (69 ≤ i ∧ i ≤ 71)) V u ∧ (f_s_ask k1 x2 x3 V J Rr) (a, u)) := by
  refine xMi.mk (lv0 := [(0, .ref (ad 69)), (1, .ref (ad k1)), (2, vI x2), (3, vI x3)]) (by decide) rfl (Nat.le_of_ble_eq_true rfl) (fun p e s m below meth c A C hr hnm hAe => ?_)
  have C : xC2 p s m _ meth c D A s.heap 6 cX0_ask RX0 (xTY cy) := C
  have hB : FB (fun i k : Nat => (69 ≤ i ∧ i ≤ 71)) V V := FB.rf _ _
  have hF := Imp.of_eq (f_s_ask.eq_def k1 x2 x3 V J Rr)
  refine x_iconst C.1 (n := 0) dX0_ask_0 ?_
  refine x_istore C.1 (lv' := [(4, vI 0), (0, .ref (ad 69)), (1, .ref (ad k1)), (2, vI x2), (3, vI x3)]) dX0_ask_1 (by decide) rfl ?_
  obtain ⟨bd85, hbd85, hF⟩ := lop2_ex hF
  refine x_loop (I := fun x : Int × (Nat → Nat → Int) => match x with | (z84, V85) => (0 ≤ z84 ∧ z84 ≤ 14) ∧ XI G V85 ∧ FB (fun i k : Nat => (69 ≤ i ∧ i ≤ 71)) V V85 ∧ (∃ nf : Nat, (15 - z84).toNat < nf ∧ Imp (lop2 nf bd85 z84 V85) (f_s_ask k1 x2 x3 V J Rr))) (μ := fun x : Int × (Nat → Nat → Int) => match x with | (z84, V85) => (15 - z84).toNat) (wsf := fun x : Int × (Nat → Nat → Int) => match x with | (z84, V85) => XW cy ad V85 J Rr) (lvf := fun x : Int × (Nat → Nat → Int) => match x with | (z84, V85) => [(4, vI z84), (0, .ref (ad 69)), (1, .ref (ad k1)), (2, vI x2), (3, vI x3)]) (fun x hI85x ih85 => ?_) (0, V) ⟨⟨by decide, by decide⟩, hI, hB, ⟨_, (by omega), hF⟩⟩ rfl rfl
  obtain ⟨z84, V85⟩ := x
  obtain ⟨bz84, hI85, hB85, nf85, hn85, hF⟩ := hI85x
  try dsimp only
  obtain ⟨nf85, rfl⟩ : ∃ mm, nf85 = mm + 1 := ⟨nf85 - 1, (Nat.succ_pred_eq_of_pos (Nat.lt_of_le_of_lt (Nat.zero_le _) hn85)).symm⟩
  replace hF := hF.to (lop2_s hbd85)
  refine x_iload C.1 dX0_ask_3 0 rfl ?_
  refine x_aload_n C.1 dX0_ask_5 2 rfl ?_
  obtain ⟨z99, ez99, bz99⟩ := hI85.rd k1 5 (x := 0) (y := 14) (rg_T hk1 5)
  replace hF := hF.to (rdb_e (z := z99) ez99)
  replace hF := hF.fc bz99
  refine x_getI C (N := 129) (i := k1) (by omega) (xd_T hk1) vc_X9 wx_X9 5 (by decide) wf_X0_57 rfl dX0_ask_6 (a := z99) ez99 ?_
  refine x_icmp_ge C.1 (tgt := 92) dX0_ask_9 (by decide) (by omega) (by omega) (fun hc100 => ?_) (fun hc100 => ?_)
  · replace hF := hF.to (if_pos hc100)
    refine x_iconst C.1 (n := 0) dX0_ask_92 ?_
    exact x_iret (S := (Nat → Nat → Int)) (post := (fun a (u : Nat → Nat → Int) => XI G u ∧ (0 ≤ a ∧ a ≤ 999) ∧ FB (fun i k : Nat => (69 ≤ i ∧ i ≤ 71)) V u ∧ (f_s_ask k1 x2 x3 V J Rr) (a, u))) (w1 := (fun u : Nat → Nat → Int => XW cy ad u J Rr)) (a := 0) C hr rfl dX0_ask_93 (by decide) V85 rfl ⟨hI85, ⟨by decide, by decide⟩, hB85, hF _ rfl⟩
  · replace hF := hF.to (if_neg hc100)
    refine x_iload C.1 dX0_ask_12 0 rfl ?_
    refine x_bipush C.1 (n := 14) dX0_ask_14 ?_
    refine x_icmp_ge_f C.1 (tgt := 92) dX0_ask_16 (by decide) (by omega) (by decide) (by omega) ?_
    refine x_aload_n C.1 dX0_ask_19 2 rfl ?_
    refine x_getA C (N := 129) (i := k1) (by omega) (xd_T hk1) vc_X9 wx_X9 2 (by decide) wf_X0_62 (a := k1 + 2) rfl dX0_ask_20 ?_
    refine x_iload C.1 dX0_ask_23 0 rfl ?_
    obtain ⟨z101, ez101, bz101⟩ := hI85.rd (k1 + 2) z84.toNat (x := 0) (y := 65535) (rg_T2 hk1 _)
    replace hF := hF.to (rdb_e (z := z101) ez101)
    replace hF := hF.fc bz101
    refine x_cald C (N := 129) (i := k1 + 2) (q := z84) (by omega) (xd_T2 hk1) (by omega) (by decide) dX0_ask_25 (a := z101) ez101 ?_
    refine x_iload_n C.1 dX0_ask_26 3 rfl ?_
    refine x_icmp_ne C.1 (tgt := 86) dX0_ask_27 (by decide) (by omega) (by omega) (fun hc102 => ?_) (fun hc102 => ?_)
    · replace hF := hF.to (if_pos hc102)
      refine x_iinc C.1 (v := z84 + 1) (lv' := [(4, vI (z84 + 1)), (0, .ref (ad 69)), (1, .ref (ad k1)), (2, vI x2), (3, vI x3)]) (by omega) dX0_ask_86 0 rfl (by decide) rfl ?_
      refine x_goto C.1 (tgt := 3) dX0_ask_89 (by decide) ?_
      have hmu85 : (15 - (z84 + 1)).toNat < (15 - z84).toNat := (by omega)
      exact ih85 (z84 + 1, V85) ⟨⟨by omega, by omega⟩, hI85, hB85, ⟨nf85, Nat.lt_of_lt_of_le hmu85 (Nat.le_of_lt_succ hn85), hF⟩⟩ hmu85
    · replace hF := hF.to (if_neg (fun hh => hh hc102))
      refine x_aload_n C.1 dX0_ask_30 1 rfl ?_
      refine x_aload_n C.1 dX0_ask_31 2 rfl ?_
      refine x_aload_n C.1 dX0_ask_32 2 rfl ?_
      refine x_getA C (N := 129) (i := k1) (by omega) (xd_T hk1) vc_X9 wx_X9 4 (by decide) wf_X0_65 (a := k1 + 4) rfl dX0_ask_33 ?_
      refine x_iload C.1 dX0_ask_36 0 rfl ?_
      obtain ⟨z103, ez103, bz103⟩ := hI85.rd (k1 + 4) z84.toNat (x := -2147483648) (y := 2147483647) (rg_T4 hk1 _)
      replace hF := hF.to (rdb_e (z := z103) ez103)
      refine x_iald C (N := 129) (i := k1 + 4) (q := z84) (by omega) (xd_T4 hk1) (by omega) (by decide) dX0_ask_38 (a := z103) ez103 ?_
      refine x_aload_n C.1 dX0_ask_39 2 rfl ?_
      refine x_getA C (N := 129) (i := k1) (by omega) (xd_T hk1) vc_X9 wx_X9 3 (by decide) wf_X0_68 (a := k1 + 3) rfl dX0_ask_40 ?_
      refine x_iload C.1 dX0_ask_43 0 rfl ?_
      refine x_iconst C.1 (n := 1) dX0_ask_45 ?_
      refine x_iadd C.1 (v := z84 + 1) (by omega) dX0_ask_46 ?_
      obtain ⟨z104, ez104, bz104⟩ := hI85.rd (k1 + 3) ((z84 + 1).toNat) (x := -2147483648) (y := 2147483647) (rg_T3 hk1 _)
      replace hF := hF.to (rdb_e (z := z104) ez104)
      refine x_iald C (N := 129) (i := k1 + 3) (q := z84 + 1) (by omega) (xd_T3 hk1) (by omega) (by decide) dX0_ask_47 (a := z104) ez104 ?_
      refine x_callVi C (As := [.ref (ad k1), vI z103, vI z104]) (rest := []) 69 (xw_at (N := 129) (i := 69) (by decide) rfl) vc_X0 (s_run l D cy ad G V85 J Rr hI85 hJ hR k1 hk1 z103 ⟨by omega, by omega⟩ z104 ⟨by omega, by omega⟩) (l1 := []) (l2 := []) (List.append_nil _).symm (w2 := fun u : Nat → Nat → Int => XW cy ad u J Rr) (fun _ => List.append_nil _) rfl wm_yX0_run wn_X0 wl_X0_71 wi_yX0_run we_yX0_run hd_yX0_run rfl ⟨Nat.le_of_ble_eq_true rfl, Nat.le_of_ble_eq_true rfl⟩ (Nat.le_of_ble_eq_true rfl) ⟨Nat.le_of_ble_eq_true rfl, Nat.le_of_ble_eq_true rfl⟩ dX0_ask_48 (fun z105 V105 bz105 h105 => ?_)
      obtain ⟨hI105, hBc105, hFc105⟩ := h105
      replace hF := calVX_i hF hFc105 hBc105
      have hB105 := hB85.tr hBc105 (fun i k h => (h))
      refine x_if_eq C.1 (tgt := 86) dX0_ask_51 (by decide) (by omega) (fun hc106 => ?_) (fun hc106 => ?_)
      · replace hF := hF.to (if_pos hc106)
        refine x_iinc C.1 (v := z84 + 1) (lv' := [(4, vI (z84 + 1)), (0, .ref (ad 69)), (1, .ref (ad k1)), (2, vI x2), (3, vI x3)]) (by omega) dX0_ask_86 0 rfl (by decide) rfl ?_
        refine x_goto C.1 (tgt := 3) dX0_ask_89 (by decide) ?_
        have hmu85 : (15 - (z84 + 1)).toNat < (15 - z84).toNat := (by omega)
        exact ih85 (z84 + 1, V105) ⟨⟨by omega, by omega⟩, hI105, hB105, ⟨nf85, Nat.lt_of_lt_of_le hmu85 (Nat.le_of_lt_succ hn85), hF⟩⟩ hmu85
      · replace hF := hF.to (if_neg hc106)
        refine x_aload_n C.1 dX0_ask_54 1 rfl ?_
        refine x_aload_n C.1 dX0_ask_55 2 rfl ?_
        refine x_aload_n C.1 dX0_ask_56 2 rfl ?_
        refine x_getA C (N := 129) (i := k1) (by omega) (xd_T hk1) vc_X9 wx_X9 3 (by decide) wf_X0_68 (a := k1 + 3) rfl dX0_ask_57 ?_
        refine x_iload C.1 dX0_ask_60 0 rfl ?_
        obtain ⟨z107, ez107, bz107⟩ := hI105.rd (k1 + 3) z84.toNat (x := -2147483648) (y := 2147483647) (rg_T3 hk1 _)
        replace hF := hF.to (rdb_e (z := z107) ez107)
        refine x_iald C (N := 129) (i := k1 + 3) (q := z84) (by omega) (xd_T3 hk1) (by omega) (by decide) dX0_ask_62 (a := z107) ez107 ?_
        refine x_aload_n C.1 dX0_ask_63 2 rfl ?_
        refine x_getA C (N := 129) (i := k1) (by omega) (xd_T hk1) vc_X9 wx_X9 4 (by decide) wf_X0_65 (a := k1 + 4) rfl dX0_ask_64 ?_
        refine x_iload C.1 dX0_ask_67 0 rfl ?_
        obtain ⟨z108, ez108, bz108⟩ := hI105.rd (k1 + 4) z84.toNat (x := -2147483648) (y := 2147483647) (rg_T4 hk1 _)
        replace hF := hF.to (rdb_e (z := z108) ez108)
        refine x_iald C (N := 129) (i := k1 + 4) (q := z84) (by omega) (xd_T4 hk1) (by omega) (by decide) dX0_ask_69 (a := z108) ez108 ?_
        refine x_callVi C (As := [.ref (ad k1), vI z107, vI z108]) (rest := []) 69 (xw_at (N := 129) (i := 69) (by decide) rfl) vc_X0 (s_run l D cy ad G V105 J Rr hI105 hJ hR k1 hk1 z107 ⟨by omega, by omega⟩ z108 ⟨by omega, by omega⟩) (l1 := []) (l2 := []) (List.append_nil _).symm (w2 := fun u : Nat → Nat → Int => XW cy ad u J Rr) (fun _ => List.append_nil _) rfl wm_yX0_run wn_X0 wl_X0_71 wi_yX0_run we_yX0_run hd_yX0_run rfl ⟨Nat.le_of_ble_eq_true rfl, Nat.le_of_ble_eq_true rfl⟩ (Nat.le_of_ble_eq_true rfl) ⟨Nat.le_of_ble_eq_true rfl, Nat.le_of_ble_eq_true rfl⟩ dX0_ask_70 (fun z109 V109 bz109 h109 => ?_)
        obtain ⟨hI109, hBc109, hFc109⟩ := h109
        replace hF := calVX_i hF hFc109 hBc109
        have hB109 := hB105.tr hBc109 (fun i k h => (h))
        refine x_istore C.1 (lv' := [(5, vI z109), (4, vI z84), (0, .ref (ad 69)), (1, .ref (ad k1)), (2, vI x2), (3, vI x3)]) dX0_ask_73 (by decide) rfl ?_
        refine x_iconst C.1 (n := 0) dX0_ask_75 ?_
        refine x_iload_n C.1 dX0_ask_76 5 rfl ?_
        refine x_iload C.1 dX0_ask_77 0 rfl ?_
        refine x_mmin C wl_X0_75 (by omega) (by omega) dX0_ask_79 ⟨Nat.le_of_ble_eq_true rfl, Nat.le_of_ble_eq_true rfl⟩ (Nat.le_of_ble_eq_true rfl) ⟨Nat.le_of_ble_eq_true rfl, Nat.le_of_ble_eq_true rfl⟩ (fun z110 hx110 => ?_)
        have bz110 : -2147483648 ≤ z110 ∧ z110 ≤ 999 := by omega
        replace hF := hF.to (rdb_e (z := z110) (by omega))
        replace hF := hF.fc bz110
        clear hx110
        refine x_mmax C wl_X0_81 (by decide) (by omega) dX0_ask_82 ⟨Nat.le_of_ble_eq_true rfl, Nat.le_of_ble_eq_true rfl⟩ (Nat.le_of_ble_eq_true rfl) ⟨Nat.le_of_ble_eq_true rfl, Nat.le_of_ble_eq_true rfl⟩ (fun z111 hx111 => ?_)
        have bz111 : 0 ≤ z111 ∧ z111 ≤ 999 := by omega
        replace hF := hF.to (rdb_e (z := z111) (by omega))
        replace hF := hF.fc bz111
        clear hx111
        exact x_iret (S := (Nat → Nat → Int)) (post := (fun a (u : Nat → Nat → Int) => XI G u ∧ (0 ≤ a ∧ a ≤ 999) ∧ FB (fun i k : Nat => (69 ≤ i ∧ i ≤ 71)) V u ∧ (f_s_ask k1 x2 x3 V J Rr) (a, u))) (w1 := (fun u : Nat → Nat → Int => XW cy ad u J Rr)) (a := z111) C hr rfl dX0_ask_85 (by omega) V109 rfl ⟨hI109, ⟨by omega, by omega⟩, hB109, hF _ rfl⟩
