theorem shl_26 {x : Int} (h : 2 ≤ x ∧ x ≤ 6) : 4 ≤ iShl 1 x ∧ iShl 1 x ≤ 64 := by
  have : x = 2 ∨ x = 3 ∨ x = 4 ∨ x = 5 ∨ x = 6 := by omega
  rcases this with rfl | rfl | rfl | rfl | rfl <;> decide +kernel
theorem p10_R64 {n : Nat} (h : n ≤ 18) : R64 ((10 : Int) ^ n) := by
  have : n = 0 ∨ n = 1 ∨ n = 2 ∨ n = 3 ∨ n = 4 ∨ n = 5 ∨ n = 6 ∨ n = 7 ∨ n = 8 ∨ n = 9 ∨ n = 10 ∨ n = 11 ∨ n = 12 ∨ n = 13 ∨ n = 14 ∨ n = 15 ∨ n = 16 ∨ n = 17 ∨ n = 18 := by omega
  rcases this with rfl | rfl | rfl | rfl | rfl | rfl | rfl | rfl | rfl | rfl | rfl | rfl | rfl | rfl | rfl | rfl | rfl | rfl | rfl <;> decide
theorem dX11_power_0 : decode cX11_power 0 = .ok (.lconst 1, 1) := by decide +kernel
theorem dX11_power_1 : decode cX11_power 1 = .ok (.lstore_n 1, 1) := by decide +kernel
theorem dX11_power_2 : decode cX11_power 2 = .ok (.iconst 0, 1) := by decide +kernel
theorem dX11_power_3 : decode cX11_power 3 = .ok (.istore_n 3, 1) := by decide +kernel
theorem dX11_power_4 : decode cX11_power 4 = .ok (.iload_n 3, 1) := by decide +kernel
theorem dX11_power_5 : decode cX11_power 5 = .ok (.iload_n 0, 1) := by decide +kernel
theorem dX11_power_6 : decode cX11_power 6 = .ok (.if_icmp .ge 15, 3) := by decide +kernel
theorem dX11_power_9 : decode cX11_power 9 = .ok (.lload_n 1, 1) := by decide +kernel
theorem dX11_power_10 : decode cX11_power 10 = .ok (.ldc2_w 241, 3) := by decide +kernel
theorem dX11_power_13 : decode cX11_power 13 = .ok (.lmul, 1) := by decide +kernel
theorem dX11_power_14 : decode cX11_power 14 = .ok (.lstore_n 1, 1) := by decide +kernel
theorem dX11_power_15 : decode cX11_power 15 = .ok (.iinc 3 1, 3) := by decide +kernel
theorem dX11_power_18 : decode cX11_power 18 = .ok (.goto (-14), 3) := by decide +kernel
theorem dX11_power_21 : decode cX11_power 21 = .ok (.lload_n 1, 1) := by decide +kernel
theorem dX11_power_22 : decode cX11_power 22 = .ok (.lreturn, 1) := by decide +kernel
set_option maxHeartbeats 4000000 in
set_option maxRecDepth 100000 in
theorem c_power (l : Launch) (D : va_G) (cy : Nat → ClassId) (x1 : Int) (hx1 : R32 x1) (hr1 : x1 ≤ 18) : xMl l D (xTY cy) yX11_power cX11_power 4 (some .long) 0 0 0 0 [vI x1] [] (fun _ : Unit => []) (fun r _ => r = (10 : Int) ^ x1.toNat) := by
  refine xMl.mk (lv0 := [(0, vI x1)]) (by decide) rfl (Nat.le_of_ble_eq_true rfl) (fun p e s m below meth c A C hr hnm hAe => ?_)
  have C : xC2 p s m _ meth c D A s.heap 4 cX11_power RX11 (xTY cy) := C
  refine x_lconst1 C.1 dX11_power_0 ?_
  refine x_lstore_n C.1 (lv' := [(1, vJ 1), (0, vI x1)]) dX11_power_1 (by decide) rfl ?_
  refine x_iconst C.1 (n := 0) dX11_power_2 ?_
  refine x_istore_n C.1 (lv' := [(3, vI 0), (1, vJ 1), (0, vI x1)]) dX11_power_3 (by decide) rfl ?_
  refine x_loop (I := fun zi : Nat => zi ≤ x1.toNat) (μ := fun zi : Nat => x1.toNat - zi) (wsf := fun zi : Nat => []) (lvf := fun zi : Nat => [(3, vI (zi : Int)), (1, vJ ((10 : Int) ^ zi)), (0, vI x1)]) (fun zi hI ih1 => ?_) (0) (Nat.zero_le _) rfl rfl
  obtain hz1 := hI
  try dsimp only
  refine x_iload_n C.1 dX11_power_4 0 rfl ?_
  refine x_iload_n C.1 dX11_power_5 2 rfl ?_
  refine x_icmp_ge C.1 (tgt := 21) dX11_power_6 (by decide) (by omega) hx1 (fun c6_2 => ?_) (fun c6_2 => ?_)
  · refine x_lload_n C.1 dX11_power_21 1 rfl ?_
    exact x_lret (S := Unit) (post := fun r _ => r = (10 : Int) ^ x1.toNat) (w1 := fun _ : Unit => []) (a := (10 : Int) ^ zi) C hr rfl dX11_power_22 (p10_R64 (by omega)) () rfl (by rw [show zi = x1.toNat by omega])
  · refine x_lload_n C.1 dX11_power_9 1 rfl ?_
    refine x_ldc2 C.1 (n := 10) wq_X11_241 dX11_power_10 ?_
    refine x_lmul C.1 (v := ((10 : Int) ^ zi) * 10) rfl dX11_power_13 ?_
    refine x_lstore_n C.1 (lv' := [(1, vJ (((10 : Int) ^ zi) * 10)), (3, vI (zi : Int)), (0, vI x1)]) dX11_power_14 (by decide) rfl ?_
    refine x_iinc C.1 (v := (zi : Int) + 1) (lv' := [(3, vI ((zi : Int) + 1)), (1, vJ (((10 : Int) ^ zi) * 10)), (0, vI x1)]) rfl dX11_power_15 1 rfl (by decide) rfl ?_
    refine x_goto C.1 (tgt := 4) dX11_power_18 (by decide) ?_
    rw [← Int.natCast_add_one, ← Int.pow_succ]
    exact ih1 (zi + 1) (by omega) (by omega)
theorem dX0_ofNothing_0 : decode cX0_ofNothing 0 = .ok (.aload_n 0, 1) := by decide +kernel
theorem dX0_ofNothing_1 : decode cX0_ofNothing 1 = .ok (.getfield 9, 3) := by decide +kernel
theorem dX0_ofNothing_4 : decode cX0_ofNothing 4 = .ok (.iconst 0, 1) := by decide +kernel
theorem dX0_ofNothing_5 : decode cX0_ofNothing 5 = .ok (.invokestatic 22, 3) := by decide +kernel
theorem dX0_ofNothing_8 : decode cX0_ofNothing 8 = .ok (.return_, 1) := by decide +kernel
set_option maxHeartbeats 4000000 in
set_option maxRecDepth 100000 in
theorem c_ofNothing (l : Launch) (D : va_G) (cy : Nat → ClassId) (ad : Nat → Nat) (V J : Nat → Nat → Int) (Rr : Nat → Nat → Nat) (hV : VR V) (hJ : VJ J)  : xMv l D (xTY cy) yX0_ofNothing cX0_ofNothing 1 none 1 23 0 0 [.ref (ad 69)] (XW cy ad V J Rr) (fun u : xS => XW cy ad u.1 u.2.1 u.2.2) (fun u => u = (flV V 70 26 0, J, Rr)) := by
  refine xMv.mk (lv0 := [(0, .ref (ad 69))]) (by decide) rfl (Nat.le_of_ble_eq_true rfl) (fun p e s m below meth c A C hr hnm hAe => ?_)
  have C : xC2 p s m _ meth c D A s.heap 1 cX0_ofNothing RX0 (xTY cy) := C
  refine x_aload_n C.1 dX0_ofNothing_0 0 rfl ?_
  refine x_getA C (N := 129) (i := 69) (by decide) rfl vc_X0 wx_X0 0 (by decide) wf_X0_9 (a := 70) rfl dX0_ofNothing_1 ?_
  refine x_iconst C.1 (n := 0) dX0_ofNothing_4 ?_
  refine x_callSv C (As := [.ref (ad 70), vI 0]) (rest := []) (c_fill l D cy ad V J Rr hV hJ 70 26 0 0 0 (by decide) rfl (by decide) (by decide)) (l1 := []) (l2 := []) (List.append_nil _).symm (w2 := fun u : xS => XW cy ad u.1 u.2.1 u.2.2) (fun _ => List.append_nil _) rfl wm_yJ7_fill_53178 wn_J7 wl_X0_22 wi_yJ7_fill_53178 hd_yJ7_fill_53178 rfl ⟨Nat.le_of_ble_eq_true rfl, Nat.le_of_ble_eq_true rfl⟩ (Nat.le_of_ble_eq_true rfl) ⟨Nat.le_of_ble_eq_true rfl, Nat.le_of_ble_eq_true rfl⟩ dX0_ofNothing_5 (fun u1 h1 => ?_)
  obtain rfl := h1
  try dsimp only
  exact x_vret (S := xS) (post := fun u => u = (flV V 70 26 0, J, Rr)) (w1 := fun u : xS => XW cy ad u.1 u.2.1 u.2.2) C hr rfl dX0_ofNothing_8 ((flV V 70 26 0), J, Rr) rfl rfl
theorem dX0_put_0 : decode cX0_put 0 = .ok (.iload_n 1, 1) := by decide +kernel
theorem dX0_put_1 : decode cX0_put 1 = .ok (.bipush 97, 2) := by decide +kernel
theorem dX0_put_3 : decode cX0_put 3 = .ok (.isub, 1) := by decide +kernel
theorem dX0_put_4 : decode cX0_put 4 = .ok (.istore_n 3, 1) := by decide +kernel
theorem dX0_put_5 : decode cX0_put 5 = .ok (.iload_n 3, 1) := by decide +kernel
theorem dX0_put_6 : decode cX0_put 6 = .ok (.ifCond .lt 19, 3) := by decide +kernel
theorem dX0_put_9 : decode cX0_put 9 = .ok (.iload_n 3, 1) := by decide +kernel
theorem dX0_put_10 : decode cX0_put 10 = .ok (.aload_n 0, 1) := by decide +kernel
theorem dX0_put_11 : decode cX0_put 11 = .ok (.getfield 9, 3) := by decide +kernel
theorem dX0_put_14 : decode cX0_put 14 = .ok (.arraylength, 1) := by decide +kernel
theorem dX0_put_15 : decode cX0_put 15 = .ok (.if_icmp .ge 10, 3) := by decide +kernel
theorem dX0_put_18 : decode cX0_put 18 = .ok (.aload_n 0, 1) := by decide +kernel
theorem dX0_put_19 : decode cX0_put 19 = .ok (.getfield 9, 3) := by decide +kernel
theorem dX0_put_22 : decode cX0_put 22 = .ok (.iload_n 3, 1) := by decide +kernel
theorem dX0_put_23 : decode cX0_put 23 = .ok (.iload_n 2, 1) := by decide +kernel
theorem dX0_put_24 : decode cX0_put 24 = .ok (.iastore, 1) := by decide +kernel
theorem dX0_put_25 : decode cX0_put 25 = .ok (.return_, 1) := by decide +kernel
set_option maxHeartbeats 4000000 in
set_option maxRecDepth 100000 in
theorem c_put (l : Launch) (D : va_G) (cy : Nat → ClassId) (ad : Nat → Nat) (V J : Nat → Nat → Int) (Rr : Nat → Nat → Nat) (hV : VR V) (hJ : VJ J) (x1 x2 : Int) (hx1 : R32 x1) (hx2 : R32 x2) (hr1 : 97 ≤ x1 ∧ x1 ≤ 122) : xMv l D (xTY cy) yX0_put cX0_put 4 none 0 0 0 0 [.ref (ad 69), vI x1, vI x2] (XW cy ad V J Rr) (fun u : xS => XW cy ad u.1 u.2.1 u.2.2) (fun u => u = (up2 V 70 (x1 - 97).toNat x2, J, Rr)) := by
  refine xMv.mk (lv0 := [(0, .ref (ad 69)), (1, vI x1), (2, vI x2)]) (by decide) rfl (Nat.le_of_ble_eq_true rfl) (fun p e s m below meth c A C hr hnm hAe => ?_)
  have C : xC2 p s m _ meth c D A s.heap 4 cX0_put RX0 (xTY cy) := C
  refine x_iload_n C.1 dX0_put_0 1 rfl ?_
  refine x_bipush C.1 (n := 97) dX0_put_1 ?_
  refine x_isub C.1 (v := x1 - 97) rfl dX0_put_3 ?_
  refine x_istore_n C.1 (lv' := [(3, vI (x1 - 97)), (0, .ref (ad 69)), (1, vI x1), (2, vI x2)]) dX0_put_4 (by decide) rfl ?_
  refine x_iload_n C.1 dX0_put_5 0 rfl ?_
  refine x_if_lt_f C.1 (tgt := 25) dX0_put_6 (by decide) (by omega) (by omega) ?_
  refine x_iload_n C.1 dX0_put_9 0 rfl ?_
  refine x_aload_n C.1 dX0_put_10 1 rfl ?_
  refine x_getA C (N := 129) (i := 69) (by decide) rfl vc_X0 wx_X0 0 (by decide) wf_X0_9 (a := 70) rfl dX0_put_11 ?_
  refine x_alenI C (N := 129) (i := 70) (t := 0) rfl (by decide) rfl dX0_put_14 ?_
  refine x_icmp_ge_f C.1 (tgt := 25) dX0_put_15 (by decide) (by omega) (by decide) (by omega) ?_
  refine x_aload_n C.1 dX0_put_18 1 rfl ?_
  refine x_getA C (N := 129) (i := 69) (by decide) rfl vc_X0 wx_X0 0 (by decide) wf_X0_9 (a := 70) rfl dX0_put_19 ?_
  refine x_iload_n C.1 dX0_put_22 0 rfl ?_
  refine x_iload_n C.1 dX0_put_23 3 rfl ?_
  refine x_iast C (N := 129) (i := 70) (q := x1 - 97) (a := x2) (by decide) rfl (by omega) (by decide) dX0_put_24 ?_
  exact x_vret (S := xS) (post := fun u => u = (up2 V 70 (x1 - 97).toNat x2, J, Rr)) (w1 := fun u : xS => XW cy ad u.1 u.2.1 u.2.2) C hr rfl dX0_put_25 ((up2 V 70 ((x1 - 97).toNat) x2), J, Rr) rfl rfl
theorem hd_yX0_put : yX0_put.cls ≠ "java/lang/invoke/MethodHandle" ∧ yX0_put.cls ≠ "java/lang/invoke/VarHandle" ∧ (parseMethodDescriptor yX0_put.desc).map (fun d => d.parameters.length) = some 2 := by decide +kernel
theorem dX0_onDay_0 : decode cX0_onDay 0 = .ok (.aload_n 0, 1) := by decide +kernel
theorem dX0_onDay_1 : decode cX0_onDay 1 = .ok (.bipush 100, 2) := by decide +kernel
theorem dX0_onDay_3 : decode cX0_onDay 3 = .ok (.iload_n 1, 1) := by decide +kernel
theorem dX0_onDay_4 : decode cX0_onDay 4 = .ok (.invokevirtual 18, 3) := by decide +kernel
theorem dX0_onDay_7 : decode cX0_onDay 7 = .ok (.aload_n 0, 1) := by decide +kernel
theorem dX0_onDay_8 : decode cX0_onDay 8 = .ok (.bipush 119, 2) := by decide +kernel
theorem dX0_onDay_10 : decode cX0_onDay 10 = .ok (.iload_n 1, 1) := by decide +kernel
theorem dX0_onDay_11 : decode cX0_onDay 11 = .ok (.bipush 7, 2) := by decide +kernel
theorem dX0_onDay_13 : decode cX0_onDay 13 = .ok (.irem, 1) := by decide +kernel
theorem dX0_onDay_14 : decode cX0_onDay 14 = .ok (.invokevirtual 18, 3) := by decide +kernel
theorem dX0_onDay_17 : decode cX0_onDay 17 = .ok (.aload_n 0, 1) := by decide +kernel
theorem dX0_onDay_18 : decode cX0_onDay 18 = .ok (.bipush 110, 2) := by decide +kernel
theorem dX0_onDay_20 : decode cX0_onDay 20 = .ok (.iload_n 2, 1) := by decide +kernel
theorem dX0_onDay_21 : decode cX0_onDay 21 = .ok (.invokevirtual 18, 3) := by decide +kernel
theorem dX0_onDay_24 : decode cX0_onDay 24 = .ok (.return_, 1) := by decide +kernel
set_option maxHeartbeats 4000000 in
set_option maxRecDepth 100000 in
theorem c_onDay (l : Launch) (D : va_G) (cy : Nat → ClassId) (ad : Nat → Nat) (V J : Nat → Nat → Int) (Rr : Nat → Nat → Nat) (hV : VR V) (hJ : VJ J) (x1 x2 : Int) (hx1 : R32 x1) (hx2 : R32 x2) : xMv l D (xTY cy) yX0_onDay cX0_onDay 3 none 1 23 0 0 [.ref (ad 69), vI x1, vI x2] (XW cy ad V J Rr) (fun u : xS => XW cy ad u.1 u.2.1 u.2.2) (fun u => u = (up2 (up2 (up2 V 70 3 x1) 70 22 (iRem x1 7)) 70 13 x2, J, Rr)) := by
  refine xMv.mk (lv0 := [(0, .ref (ad 69)), (1, vI x1), (2, vI x2)]) (by decide) rfl (Nat.le_of_ble_eq_true rfl) (fun p e s m below meth c A C hr hnm hAe => ?_)
  have C : xC2 p s m _ meth c D A s.heap 3 cX0_onDay RX0 (xTY cy) := C
  refine x_aload_n C.1 dX0_onDay_0 0 rfl ?_
  refine x_bipush C.1 (n := 100) dX0_onDay_1 ?_
  refine x_iload_n C.1 dX0_onDay_3 1 rfl ?_
  refine x_callVv C (As := [vI 100, vI x1]) (rest := []) 69 (xw_at (N := 129) (i := 69) (by decide) rfl) vc_X0 (c_put l D cy ad V J Rr hV hJ 100 x1 (by decide) hx1 (by decide)) (l1 := []) (l2 := []) (List.append_nil _).symm (w2 := fun u : xS => XW cy ad u.1 u.2.1 u.2.2) (fun _ => List.append_nil _) rfl wm_yX0_put wn_X0 wl_X0_18 wi_yX0_put we_yX0_put hd_yX0_put rfl ⟨Nat.le_of_ble_eq_true rfl, Nat.le_of_ble_eq_true rfl⟩ (Nat.le_of_ble_eq_true rfl) ⟨Nat.le_of_ble_eq_true rfl, Nat.le_of_ble_eq_true rfl⟩ dX0_onDay_4 (fun u1 h1 => ?_)
  obtain rfl := h1
  try dsimp only
  rw [show ((100 : Int) - 97).toNat = 3 from rfl]
  refine x_aload_n C.1 dX0_onDay_7 0 rfl ?_
  refine x_bipush C.1 (n := 119) dX0_onDay_8 ?_
  refine x_iload_n C.1 dX0_onDay_10 1 rfl ?_
  refine x_bipush C.1 (n := 7) dX0_onDay_11 ?_
  refine x_irem C.1 (v := iRem x1 7) rfl dX0_onDay_13 (by decide) (by decide) ?_
  refine x_callVv C (As := [vI 119, vI (iRem x1 7)]) (rest := []) 69 (xw_at (N := 129) (i := 69) (by decide) rfl) vc_X0 (c_put l D cy ad (up2 V 70 3 x1) J Rr (VR_up hV hx1) hJ 119 (iRem x1 7) (by decide) (xi_r _) (by decide)) (l1 := []) (l2 := []) (List.append_nil _).symm (w2 := fun u : xS => XW cy ad u.1 u.2.1 u.2.2) (fun _ => List.append_nil _) rfl wm_yX0_put wn_X0 wl_X0_18 wi_yX0_put we_yX0_put hd_yX0_put rfl ⟨Nat.le_of_ble_eq_true rfl, Nat.le_of_ble_eq_true rfl⟩ (Nat.le_of_ble_eq_true rfl) ⟨Nat.le_of_ble_eq_true rfl, Nat.le_of_ble_eq_true rfl⟩ dX0_onDay_14 (fun u2 h2 => ?_)
  obtain rfl := h2
  try dsimp only
  rw [show ((119 : Int) - 97).toNat = 22 from rfl]
  refine x_aload_n C.1 dX0_onDay_17 0 rfl ?_
  refine x_bipush C.1 (n := 110) dX0_onDay_18 ?_
  refine x_iload_n C.1 dX0_onDay_20 2 rfl ?_
  refine x_callVv C (As := [vI 110, vI x2]) (rest := []) 69 (xw_at (N := 129) (i := 69) (by decide) rfl) vc_X0 (c_put l D cy ad (up2 (up2 V 70 3 x1) 70 22 (iRem x1 7)) J Rr (VR_up (VR_up hV hx1) (xi_r _)) hJ 110 x2 (by decide) hx2 (by decide)) (l1 := []) (l2 := []) (List.append_nil _).symm (w2 := fun u : xS => XW cy ad u.1 u.2.1 u.2.2) (fun _ => List.append_nil _) rfl wm_yX0_put wn_X0 wl_X0_18 wi_yX0_put we_yX0_put hd_yX0_put rfl ⟨Nat.le_of_ble_eq_true rfl, Nat.le_of_ble_eq_true rfl⟩ (Nat.le_of_ble_eq_true rfl) ⟨Nat.le_of_ble_eq_true rfl, Nat.le_of_ble_eq_true rfl⟩ dX0_onDay_21 (fun u3 h3 => ?_)
  obtain rfl := h3
  try dsimp only
  rw [show ((110 : Int) - 97).toNat = 13 from rfl]
  exact x_vret (S := xS) (post := fun u => u = (up2 (up2 (up2 V 70 3 x1) 70 22 (iRem x1 7)) 70 13 x2, J, Rr)) (w1 := fun u : xS => XW cy ad u.1 u.2.1 u.2.2) C hr rfl dX0_onDay_24 ((up2 (up2 (up2 V 70 3 x1) 70 22 (iRem x1 7)) 70 13 x2), J, Rr) rfl rfl
theorem dX0_ask_0 : decode cX0_ask 0 = .ok (.iconst 0, 1) := by decide +kernel
theorem dX0_ask_1 : decode cX0_ask 1 = .ok (.istore 4, 2) := by decide +kernel
theorem dX0_ask_3 : decode cX0_ask 3 = .ok (.iload 4, 2) := by decide +kernel
theorem dX0_ask_5 : decode cX0_ask 5 = .ok (.aload_n 1, 1) := by decide +kernel
theorem dX0_ask_6 : decode cX0_ask 6 = .ok (.getfield 57, 3) := by decide +kernel
theorem dX0_ask_9 : decode cX0_ask 9 = .ok (.if_icmp .ge 83, 3) := by decide +kernel
theorem dX0_ask_92 : decode cX0_ask 92 = .ok (.iconst 0, 1) := by decide +kernel
theorem dX0_ask_93 : decode cX0_ask 93 = .ok (.ireturn, 1) := by decide +kernel
set_option maxHeartbeats 4000000 in
set_option maxRecDepth 100000 in
theorem f_ask (l : Launch) (D : va_G) (cy : Nat → ClassId) (ad : Nat → Nat) (V J : Nat → Nat → Int) (Rr : Nat → Nat → Nat) (hV : VR V) (hJ : VJ J) (ta : Nat) (hta : isTx ta) (x1 x2 : Int) (hx1 : R32 x1) (hx2 : R32 x2) (h0 : V ta 5 = 0) : xMi l D (xTY cy) yX0_ask cX0_ask 6 (some .int) 0 0 0 0 [.ref (ad 69), .ref (ad ta), vI x1, vI x2] (XW cy ad V J Rr) (fun _ : Unit => XW cy ad V J Rr) (fun r _ => r = 0) := by
  refine xMi.mk (lv0 := [(0, .ref (ad 69)), (1, .ref (ad ta)), (2, vI x1), (3, vI x2)]) (by decide) rfl (Nat.le_of_ble_eq_true rfl) (fun p e s m below meth c A C hr hnm hAe => ?_)
  have C : xC2 p s m _ meth c D A s.heap 6 cX0_ask RX0 (xTY cy) := C
  refine x_iconst C.1 (n := 0) dX0_ask_0 ?_
  refine x_istore C.1 (lv' := [(4, vI 0), (0, .ref (ad 69)), (1, .ref (ad ta)), (2, vI x1), (3, vI x2)]) dX0_ask_1 (by decide) rfl ?_
  refine x_iload C.1 dX0_ask_3 0 rfl ?_
  refine x_aload_n C.1 dX0_ask_5 2 rfl ?_
  refine x_getI C (N := 129) (i := ta) (by omega) (xd_T hta) vc_X9 wx_X9 5 (by decide) wf_X0_57 rfl dX0_ask_6 (a := 0) h0 ?_
  refine x_icmp_ge_t C.1 (tgt := 92) dX0_ask_9 (by decide) (by decide) (by decide) (by decide) ?_
  refine x_iconst C.1 (n := 0) dX0_ask_92 ?_
  exact x_iret (S := Unit) (post := fun r _ => r = 0) (w1 := fun _ : Unit => XW cy ad V J Rr) (a := 0) C hr rfl dX0_ask_93 (by decide) () rfl (by omega)
theorem hd_yX0_ask : yX0_ask.cls ≠ "java/lang/invoke/MethodHandle" ∧ yX0_ask.cls ≠ "java/lang/invoke/VarHandle" ∧ (parseMethodDescriptor yX0_ask.desc).map (fun d => d.parameters.length) = some 3 := by decide +kernel
theorem hd_yX0_ofNothing : yX0_ofNothing.cls ≠ "java/lang/invoke/MethodHandle" ∧ yX0_ofNothing.cls ≠ "java/lang/invoke/VarHandle" ∧ (parseMethodDescriptor yX0_ofNothing.desc).map (fun d => d.parameters.length) = some 0 := by decide +kernel
theorem hd_yX0_onDay : yX0_onDay.cls ≠ "java/lang/invoke/MethodHandle" ∧ yX0_onDay.cls ≠ "java/lang/invoke/VarHandle" ∧ (parseMethodDescriptor yX0_onDay.desc).map (fun d => d.parameters.length) = some 2 := by decide +kernel
theorem dX1_setPrices_0 : decode cX1_setPrices 0 = .ok (.aload_n 0, 1) := by decide +kernel
theorem dX1_setPrices_1 : decode cX1_setPrices 1 = .ok (.getfield 32, 3) := by decide +kernel
theorem dX1_setPrices_4 : decode cX1_setPrices 4 = .ok (.invokevirtual 104, 3) := by decide +kernel
theorem dX1_setPrices_7 : decode cX1_setPrices 7 = .ok (.aload_n 0, 1) := by decide +kernel
theorem dX1_setPrices_8 : decode cX1_setPrices 8 = .ok (.getfield 32, 3) := by decide +kernel
theorem dX1_setPrices_11 : decode cX1_setPrices 11 = .ok (.aload_n 1, 1) := by decide +kernel
theorem dX1_setPrices_12 : decode cX1_setPrices 12 = .ok (.getfield 63, 3) := by decide +kernel
theorem dX1_setPrices_15 : decode cX1_setPrices 15 = .ok (.aload_n 1, 1) := by decide +kernel
theorem dX1_setPrices_16 : decode cX1_setPrices 16 = .ok (.getfield 67, 3) := by decide +kernel
theorem dX1_setPrices_19 : decode cX1_setPrices 19 = .ok (.invokevirtual 70, 3) := by decide +kernel
theorem dX1_setPrices_22 : decode cX1_setPrices 22 = .ok (.iconst 0, 1) := by decide +kernel
theorem dX1_setPrices_23 : decode cX1_setPrices 23 = .ok (.istore_n 3, 1) := by decide +kernel
theorem dX1_setPrices_24 : decode cX1_setPrices 24 = .ok (.iload_n 3, 1) := by decide +kernel
theorem dX1_setPrices_25 : decode cX1_setPrices 25 = .ok (.iload_n 2, 1) := by decide +kernel
theorem dX1_setPrices_26 : decode cX1_setPrices 26 = .ok (.if_icmp .ge 71, 3) := by decide +kernel
theorem dX1_setPrices_29 : decode cX1_setPrices 29 = .ok (.iload_n 3, 1) := by decide +kernel
theorem dX1_setPrices_30 : decode cX1_setPrices 30 = .ok (.aload_n 0, 1) := by decide +kernel
theorem dX1_setPrices_31 : decode cX1_setPrices 31 = .ok (.getfield 22, 3) := by decide +kernel
theorem dX1_setPrices_34 : decode cX1_setPrices 34 = .ok (.arraylength, 1) := by decide +kernel
theorem dX1_setPrices_35 : decode cX1_setPrices 35 = .ok (.if_icmp .ge 62, 3) := by decide +kernel
theorem dX1_setPrices_38 : decode cX1_setPrices 38 = .ok (.aload_n 0, 1) := by decide +kernel
theorem dX1_setPrices_39 : decode cX1_setPrices 39 = .ok (.getfield 32, 3) := by decide +kernel
theorem dX1_setPrices_42 : decode cX1_setPrices 42 = .ok (.bipush 112, 2) := by decide +kernel
theorem dX1_setPrices_44 : decode cX1_setPrices 44 = .ok (.iload_n 3, 1) := by decide +kernel
theorem dX1_setPrices_45 : decode cX1_setPrices 45 = .ok (.invokevirtual 107, 3) := by decide +kernel
theorem dX1_setPrices_48 : decode cX1_setPrices 48 = .ok (.aload_n 0, 1) := by decide +kernel
theorem dX1_setPrices_49 : decode cX1_setPrices 49 = .ok (.getfield 22, 3) := by decide +kernel
theorem dX1_setPrices_52 : decode cX1_setPrices 52 = .ok (.iload_n 3, 1) := by decide +kernel
theorem dX1_setPrices_53 : decode cX1_setPrices 53 = .ok (.aload_n 0, 1) := by decide +kernel
theorem dX1_setPrices_54 : decode cX1_setPrices 54 = .ok (.getfield 32, 3) := by decide +kernel
theorem dX1_setPrices_57 : decode cX1_setPrices 57 = .ok (.aload_n 0, 1) := by decide +kernel
theorem dX1_setPrices_58 : decode cX1_setPrices 58 = .ok (.getfield 12, 3) := by decide +kernel
theorem dX1_setPrices_61 : decode cX1_setPrices 61 = .ok (.bipush 99, 2) := by decide +kernel
theorem dX1_setPrices_63 : decode cX1_setPrices 63 = .ok (.bipush 99, 2) := by decide +kernel
theorem dX1_setPrices_65 : decode cX1_setPrices 65 = .ok (.invokevirtual 97, 3) := by decide +kernel
theorem dX1_setPrices_68 : decode cX1_setPrices 68 = .ok (.iastore, 1) := by decide +kernel
theorem dX1_setPrices_69 : decode cX1_setPrices 69 = .ok (.aload_n 0, 1) := by decide +kernel
theorem dX1_setPrices_70 : decode cX1_setPrices 70 = .ok (.getfield 26, 3) := by decide +kernel
theorem dX1_setPrices_73 : decode cX1_setPrices 73 = .ok (.iload_n 3, 1) := by decide +kernel
theorem dX1_setPrices_74 : decode cX1_setPrices 74 = .ok (.aload_n 0, 1) := by decide +kernel
theorem dX1_setPrices_75 : decode cX1_setPrices 75 = .ok (.getfield 32, 3) := by decide +kernel
theorem dX1_setPrices_78 : decode cX1_setPrices 78 = .ok (.aload_n 0, 1) := by decide +kernel
theorem dX1_setPrices_79 : decode cX1_setPrices 79 = .ok (.getfield 12, 3) := by decide +kernel
theorem dX1_setPrices_82 : decode cX1_setPrices 82 = .ok (.bipush 98, 2) := by decide +kernel
theorem dX1_setPrices_84 : decode cX1_setPrices 84 = .ok (.sipush 999, 3) := by decide +kernel
theorem dX1_setPrices_87 : decode cX1_setPrices 87 = .ok (.invokevirtual 97, 3) := by decide +kernel
theorem dX1_setPrices_90 : decode cX1_setPrices 90 = .ok (.iastore, 1) := by decide +kernel
theorem dX1_setPrices_91 : decode cX1_setPrices 91 = .ok (.iinc 3 1, 3) := by decide +kernel
theorem dX1_setPrices_94 : decode cX1_setPrices 94 = .ok (.goto (-70), 3) := by decide +kernel
theorem dX1_setPrices_97 : decode cX1_setPrices 97 = .ok (.return_, 1) := by decide +kernel
set_option maxHeartbeats 4000000 in
set_option maxRecDepth 100000 in
theorem f_setPrices (l : Launch) (D : va_G) (cy : Nat → ClassId) (ad : Nat → Nat) (V J : Nat → Nat → Int) (Rr : Nat → Nat → Nat) (hV : VR V) (hJ : VJ J) (x1 : Int) (hx1 : R32 x1) (hlw : Rr 60 0 = 61) (h0 : V 61 5 = 0) (hco : ∀ k, V 67 k = 0) (hwo : ∀ k, V 68 k = 0) : xMv l D (xTY cy) yX1_setPrices cX1_setPrices 4 none 2 45 0 0 [.ref (ad 60), .ref (ad 1), vI x1] (XW cy ad V J Rr) (fun u : xS => XW cy ad u.1 u.2.1 u.2.2) (fun u => VR u.1 ∧ (∀ k, u.1 67 k = 0) ∧ (∀ k, u.1 68 k = 0) ∧ (J, Rr) = u.2) := by
  refine xMv.mk (lv0 := [(0, .ref (ad 60)), (1, .ref (ad 1)), (2, vI x1)]) (by decide) rfl (Nat.le_of_ble_eq_true rfl) (fun p e s m below meth c A C hr hnm hAe => ?_)
  have C : xC2 p s m _ meth c D A s.heap 4 cX1_setPrices RX1 (xTY cy) := C
  refine x_aload_n C.1 dX1_setPrices_0 0 rfl ?_
  refine x_getA C (N := 129) (i := 60) (by decide) rfl vc_X1 wx_X1 4 (by decide) wf_X1_32 (a := 69) rfl dX1_setPrices_1 ?_
  refine x_callVv C (As := []) (rest := []) 69 (xw_at (N := 129) (i := 69) (by decide) rfl) vc_X0 (c_ofNothing l D cy ad V J Rr hV hJ ) (l1 := []) (l2 := []) (List.append_nil _).symm (w2 := fun u : xS => XW cy ad u.1 u.2.1 u.2.2) (fun _ => List.append_nil _) rfl wm_yX0_ofNothing wn_X0 wl_X1_104 wi_yX0_ofNothing we_yX0_ofNothing hd_yX0_ofNothing rfl ⟨Nat.le_of_ble_eq_true rfl, Nat.le_of_ble_eq_true rfl⟩ (Nat.le_of_ble_eq_true rfl) ⟨Nat.le_of_ble_eq_true rfl, Nat.le_of_ble_eq_true rfl⟩ dX1_setPrices_4 (fun u1 h1 => ?_)
  obtain rfl := h1
  try dsimp only
  refine x_aload_n C.1 dX1_setPrices_7 0 rfl ?_
  refine x_getA C (N := 129) (i := 60) (by decide) rfl vc_X1 wx_X1 4 (by decide) wf_X1_32 (a := 69) rfl dX1_setPrices_8 ?_
  refine x_aload_n C.1 dX1_setPrices_11 1 rfl ?_
  refine x_getI C (N := 129) (i := 1) (by omega) (xd_L (Or.inl rfl)) vc_X3 wx_X3 3 (by decide) wf_X1_63 rfl dX1_setPrices_12 (a := (flV V 70 26 0) 1 3) rfl ?_
  refine x_aload_n C.1 dX1_setPrices_15 1 rfl ?_
  refine x_getI C (N := 129) (i := 1) (by omega) (xd_L (Or.inl rfl)) vc_X3 wx_X3 2 (by decide) wf_X1_67 rfl dX1_setPrices_16 (a := (flV V 70 26 0) 1 2) rfl ?_
  refine x_callVv C (As := [vI ((flV V 70 26 0) 1 3), vI ((flV V 70 26 0) 1 2)]) (rest := []) 69 (xw_at (N := 129) (i := 69) (by decide) rfl) vc_X0 (c_onDay l D cy ad (flV V 70 26 0) J Rr (flV_VR hV (by decide)) hJ ((flV V 70 26 0) 1 3) ((flV V 70 26 0) 1 2) ((flV_VR hV (by decide)) _ _) ((flV_VR hV (by decide)) _ _)) (l1 := []) (l2 := []) (List.append_nil _).symm (w2 := fun u : xS => XW cy ad u.1 u.2.1 u.2.2) (fun _ => List.append_nil _) rfl wm_yX0_onDay wn_X0 wl_X1_70 wi_yX0_onDay we_yX0_onDay hd_yX0_onDay rfl ⟨Nat.le_of_ble_eq_true rfl, Nat.le_of_ble_eq_true rfl⟩ (Nat.le_of_ble_eq_true rfl) ⟨Nat.le_of_ble_eq_true rfl, Nat.le_of_ble_eq_true rfl⟩ dX1_setPrices_19 (fun u2 h2 => ?_)
  obtain rfl := h2
  try dsimp only
  refine x_iconst C.1 (n := 0) dX1_setPrices_22 ?_
  refine x_istore_n C.1 (lv' := [(3, vI 0), (0, .ref (ad 60)), (1, .ref (ad 1)), (2, vI x1)]) dX1_setPrices_23 (by decide) rfl ?_
  refine x_loop (I := fun x : Nat × (Nat → Nat → Int) => match x with | (zi, zV) => zi ≤ 6 ∧ VR zV ∧ zV 61 5 = 0 ∧ (∀ k, zV 67 k = 0) ∧ (∀ k, zV 68 k = 0)) (μ := fun x : Nat × (Nat → Nat → Int) => match x with | (zi, zV) => 6 - zi) (wsf := fun x : Nat × (Nat → Nat → Int) => match x with | (zi, zV) => XW cy ad zV J Rr) (lvf := fun x : Nat × (Nat → Nat → Int) => match x with | (zi, zV) => [(3, vI (zi : Int)), (0, .ref (ad 60)), (1, .ref (ad 1)), (2, vI x1)]) (fun x hI ih3 => ?_) (0, (up2 (up2 (up2 (flV V 70 26 0) 70 3 ((flV V 70 26 0) 1 3)) 70 22 (iRem ((flV V 70 26 0) 1 3) 7)) 70 13 ((flV V 70 26 0) 1 2))) ⟨by decide, (VR_up (VR_up (VR_up (flV_VR hV (by decide)) ((flV_VR hV (by decide)) _ _)) (xi_r _)) ((flV_VR hV (by decide)) _ _)), by simp [up2, up1, flV, h0], by simp [up2, up1, flV, hco], by simp [up2, up1, flV, hwo]⟩ rfl rfl
  obtain ⟨zi, zV⟩ := x
  obtain ⟨hz1, hz2, hz3, hz4, hz5⟩ := hI
  try dsimp only
  refine x_iload_n C.1 dX1_setPrices_24 0 rfl ?_
  refine x_iload_n C.1 dX1_setPrices_25 3 rfl ?_
  refine x_icmp_ge C.1 (tgt := 97) dX1_setPrices_26 (by decide) (by omega) hx1 (fun c26_4 => ?_) (fun c26_4 => ?_)
  · exact x_vret (S := xS) (post := fun u => VR u.1 ∧ (∀ k, u.1 67 k = 0) ∧ (∀ k, u.1 68 k = 0) ∧ (J, Rr) = u.2) (w1 := fun u : xS => XW cy ad u.1 u.2.1 u.2.2) C hr rfl dX1_setPrices_97 (zV, J, Rr) rfl ⟨hz2, hz4, hz5, rfl⟩
  · refine x_iload_n C.1 dX1_setPrices_29 0 rfl ?_
    refine x_aload_n C.1 dX1_setPrices_30 1 rfl ?_
    refine x_getA C (N := 129) (i := 60) (by decide) rfl vc_X1 wx_X1 2 (by decide) wf_X1_22 (a := 67) rfl dX1_setPrices_31 ?_
    refine x_alenI C (N := 129) (i := 67) (t := 0) rfl (by decide) rfl dX1_setPrices_34 ?_
    refine x_icmp_ge C.1 (tgt := 97) dX1_setPrices_35 (by decide) (by omega) (by decide) (fun c35_5 => ?_) (fun c35_5 => ?_)
    · exact x_vret (S := xS) (post := fun u => VR u.1 ∧ (∀ k, u.1 67 k = 0) ∧ (∀ k, u.1 68 k = 0) ∧ (J, Rr) = u.2) (w1 := fun u : xS => XW cy ad u.1 u.2.1 u.2.2) C hr rfl dX1_setPrices_97 (zV, J, Rr) rfl ⟨hz2, hz4, hz5, rfl⟩
    · refine x_aload_n C.1 dX1_setPrices_38 1 rfl ?_
      refine x_getA C (N := 129) (i := 60) (by decide) rfl vc_X1 wx_X1 4 (by decide) wf_X1_32 (a := 69) rfl dX1_setPrices_39 ?_
      refine x_bipush C.1 (n := 112) dX1_setPrices_42 ?_
      refine x_iload_n C.1 dX1_setPrices_44 0 rfl ?_
      refine x_callVv C (As := [vI 112, vI (zi : Int)]) (rest := []) 69 (xw_at (N := 129) (i := 69) (by decide) rfl) vc_X0 (c_put l D cy ad zV J Rr hz2 hJ 112 (zi : Int) (by decide) (by omega) (by decide)) (l1 := []) (l2 := []) (List.append_nil _).symm (w2 := fun u : xS => XW cy ad u.1 u.2.1 u.2.2) (fun _ => List.append_nil _) rfl wm_yX0_put wn_X0 wl_X1_107 wi_yX0_put we_yX0_put hd_yX0_put rfl ⟨Nat.le_of_ble_eq_true rfl, Nat.le_of_ble_eq_true rfl⟩ (Nat.le_of_ble_eq_true rfl) ⟨Nat.le_of_ble_eq_true rfl, Nat.le_of_ble_eq_true rfl⟩ dX1_setPrices_45 (fun u6 h6 => ?_)
      obtain rfl := h6
      try dsimp only
      rw [show ((112 : Int) - 97).toNat = 15 from rfl]
      refine x_aload_n C.1 dX1_setPrices_48 1 rfl ?_
      refine x_getA C (N := 129) (i := 60) (by decide) rfl vc_X1 wx_X1 2 (by decide) wf_X1_22 (a := 67) rfl dX1_setPrices_49 ?_
      refine x_iload_n C.1 dX1_setPrices_52 0 rfl ?_
      refine x_aload_n C.1 dX1_setPrices_53 1 rfl ?_
      refine x_getA C (N := 129) (i := 60) (by decide) rfl vc_X1 wx_X1 4 (by decide) wf_X1_32 (a := 69) rfl dX1_setPrices_54 ?_
      refine x_aload_n C.1 dX1_setPrices_57 1 rfl ?_
      refine x_getR C (N := 129) (i := 60) (by decide) rfl vc_X1 wx_X1 0 (by decide) wf_X1_12 rfl dX1_setPrices_58 (a := 61) hlw ?_
      refine x_bipush C.1 (n := 99) dX1_setPrices_61 ?_
      refine x_bipush C.1 (n := 99) dX1_setPrices_63 ?_
      refine x_callVi C (As := [.ref (ad 61), vI 99, vI 99]) (rest := [vI (zi : Int), .ref (ad 67)]) 69 (xw_at (N := 129) (i := 69) (by decide) rfl) vc_X0 (f_ask l D cy ad (up2 zV 70 15 (zi : Int)) J Rr (VR_up hz2 (by omega)) hJ 61 (Or.inl rfl) 99 99 (by decide) (by decide) (by simp [up2, up1, flV, hz3])) (l1 := []) (l2 := []) (List.append_nil _).symm (w2 := fun _ => XW cy ad (up2 zV 70 15 (zi : Int)) J Rr) (fun _ => List.append_nil _) rfl wm_yX0_ask wn_X0 wl_X1_97 wi_yX0_ask we_yX0_ask hd_yX0_ask rfl ⟨Nat.le_of_ble_eq_true rfl, Nat.le_of_ble_eq_true rfl⟩ (Nat.le_of_ble_eq_true rfl) ⟨Nat.le_of_ble_eq_true rfl, Nat.le_of_ble_eq_true rfl⟩ dX1_setPrices_65 (fun r7 u7 hr7 h7 => ?_)
      obtain rfl := h7
      refine x_iast C (N := 129) (i := 67) (q := (zi : Int)) (a := 0) (by decide) rfl (by omega) (by decide) dX1_setPrices_68 ?_
      refine x_aload_n C.1 dX1_setPrices_69 1 rfl ?_
      refine x_getA C (N := 129) (i := 60) (by decide) rfl vc_X1 wx_X1 3 (by decide) wf_X1_26 (a := 68) rfl dX1_setPrices_70 ?_
      refine x_iload_n C.1 dX1_setPrices_73 0 rfl ?_
      refine x_aload_n C.1 dX1_setPrices_74 1 rfl ?_
      refine x_getA C (N := 129) (i := 60) (by decide) rfl vc_X1 wx_X1 4 (by decide) wf_X1_32 (a := 69) rfl dX1_setPrices_75 ?_
      refine x_aload_n C.1 dX1_setPrices_78 1 rfl ?_
      refine x_getR C (N := 129) (i := 60) (by decide) rfl vc_X1 wx_X1 0 (by decide) wf_X1_12 rfl dX1_setPrices_79 (a := 61) hlw ?_
      refine x_bipush C.1 (n := 98) dX1_setPrices_82 ?_
      refine x_sipush C.1 (n := 999) dX1_setPrices_84 ?_
      refine x_callVi C (As := [.ref (ad 61), vI 98, vI 999]) (rest := [vI (zi : Int), .ref (ad 68)]) 69 (xw_at (N := 129) (i := 69) (by decide) rfl) vc_X0 (f_ask l D cy ad (up2 (up2 zV 70 15 (zi : Int)) 67 ((zi : Int).toNat) 0) J Rr (VR_up (VR_up hz2 (by omega)) (by decide)) hJ 61 (Or.inl rfl) 98 999 (by decide) (by decide) (by simp [up2, up1, flV, hz3])) (l1 := []) (l2 := []) (List.append_nil _).symm (w2 := fun _ => XW cy ad (up2 (up2 zV 70 15 (zi : Int)) 67 ((zi : Int).toNat) 0) J Rr) (fun _ => List.append_nil _) rfl wm_yX0_ask wn_X0 wl_X1_97 wi_yX0_ask we_yX0_ask hd_yX0_ask rfl ⟨Nat.le_of_ble_eq_true rfl, Nat.le_of_ble_eq_true rfl⟩ (Nat.le_of_ble_eq_true rfl) ⟨Nat.le_of_ble_eq_true rfl, Nat.le_of_ble_eq_true rfl⟩ dX1_setPrices_87 (fun r8 u8 hr8 h8 => ?_)
      obtain rfl := h8
      refine x_iast C (N := 129) (i := 68) (q := (zi : Int)) (a := 0) (by decide) rfl (by omega) (by decide) dX1_setPrices_90 ?_
      refine x_iinc C.1 (v := (zi : Int) + 1) (lv' := [(3, vI ((zi : Int) + 1)), (0, .ref (ad 60)), (1, .ref (ad 1)), (2, vI x1)]) rfl dX1_setPrices_91 0 rfl (by decide) rfl ?_
      refine x_goto C.1 (tgt := 24) dX1_setPrices_94 (by decide) ?_
      rw [← Int.natCast_add_one]
      exact ih3 (zi + 1, _) ⟨by (try dsimp only); omega, (VR_up (VR_up (VR_up hz2 (by omega)) (by decide)) (by decide)), by simp [up2, up1, hz3], by simp [up2, up1, hz4], by simp [up2, up1, hz5]⟩ (by (try dsimp only); omega)
theorem dX11_worthOf_0 : decode cX11_worthOf 0 = .ok (.iload_n 1, 1) := by decide +kernel
theorem dX11_worthOf_1 : decode cX11_worthOf 1 = .ok (.ifCond .ne 5, 3) := by decide +kernel
theorem dX11_worthOf_4 : decode cX11_worthOf 4 = .ok (.iconst 0, 1) := by decide +kernel
theorem dX11_worthOf_5 : decode cX11_worthOf 5 = .ok (.ireturn, 1) := by decide +kernel
theorem dX11_worthOf_6 : decode cX11_worthOf 6 = .ok (.aload_n 0, 1) := by decide +kernel
theorem dX11_worthOf_7 : decode cX11_worthOf 7 = .ok (.getfield 34, 3) := by decide +kernel
theorem dX11_worthOf_10 : decode cX11_worthOf 10 = .ok (.getfield 379, 3) := by decide +kernel
theorem dX11_worthOf_13 : decode cX11_worthOf 13 = .ok (.iload_n 2, 1) := by decide +kernel
theorem dX11_worthOf_14 : decode cX11_worthOf 14 = .ok (.iaload, 1) := by decide +kernel
theorem dX11_worthOf_15 : decode cX11_worthOf 15 = .ok (.iload_n 1, 1) := by decide +kernel
theorem dX11_worthOf_16 : decode cX11_worthOf 16 = .ok (.iload_n 2, 1) := by decide +kernel
theorem dX11_worthOf_17 : decode cX11_worthOf 17 = .ok (.ishr, 1) := by decide +kernel
theorem dX11_worthOf_18 : decode cX11_worthOf 18 = .ok (.iconst 1, 1) := by decide +kernel
theorem dX11_worthOf_19 : decode cX11_worthOf 19 = .ok (.iand, 1) := by decide +kernel
theorem dX11_worthOf_20 : decode cX11_worthOf 20 = .ok (.iconst 1, 1) := by decide +kernel
theorem dX11_worthOf_21 : decode cX11_worthOf 21 = .ok (.if_icmp .ne 15, 3) := by decide +kernel
theorem dX11_worthOf_24 : decode cX11_worthOf 24 = .ok (.aload_n 0, 1) := by decide +kernel
theorem dX11_worthOf_25 : decode cX11_worthOf 25 = .ok (.getfield 34, 3) := by decide +kernel
theorem dX11_worthOf_28 : decode cX11_worthOf 28 = .ok (.getfield 382, 3) := by decide +kernel
theorem dX11_worthOf_31 : decode cX11_worthOf 31 = .ok (.iload_n 2, 1) := by decide +kernel
theorem dX11_worthOf_32 : decode cX11_worthOf 32 = .ok (.iaload, 1) := by decide +kernel
theorem dX11_worthOf_33 : decode cX11_worthOf 33 = .ok (.goto 4, 3) := by decide +kernel
theorem dX11_worthOf_36 : decode cX11_worthOf 36 = .ok (.iconst 0, 1) := by decide +kernel
theorem dX11_worthOf_37 : decode cX11_worthOf 37 = .ok (.isub, 1) := by decide +kernel
theorem dX11_worthOf_38 : decode cX11_worthOf 38 = .ok (.ireturn, 1) := by decide +kernel
set_option maxHeartbeats 4000000 in
set_option maxRecDepth 100000 in
theorem f_worthOf (l : Launch) (D : va_G) (cy : Nat → ClassId) (ad : Nat → Nat) (V J : Nat → Nat → Int) (Rr : Nat → Nat → Nat) (hV : VR V) (hJ : VJ J) (x1 x2 : Int) (hx1 : R32 x1) (hx2 : R32 x2) (hco : ∀ k, V 67 k = 0) (hwo : ∀ k, V 68 k = 0) (hr2 : 0 ≤ x2 ∧ x2 < 6) : xMi l D (xTY cy) yX11_worthOf cX11_worthOf 3 (some .int) 0 0 0 0 [.ref (ad 0), vI x1, vI x2] (XW cy ad V J Rr) (fun _ : Unit => XW cy ad V J Rr) (fun r _ => r = 0) := by
  refine xMi.mk (lv0 := [(0, .ref (ad 0)), (1, vI x1), (2, vI x2)]) (by decide) rfl (Nat.le_of_ble_eq_true rfl) (fun p e s m below meth c A C hr hnm hAe => ?_)
  have C : xC2 p s m _ meth c D A s.heap 3 cX11_worthOf RX11 (xTY cy) := C
  refine x_iload_n C.1 dX11_worthOf_0 1 rfl ?_
  refine x_if_ne C.1 (tgt := 6) dX11_worthOf_1 (by decide) hx1 (fun c1_1 => ?_) (fun c1_1 => ?_)
  · refine x_aload_n C.1 dX11_worthOf_6 0 rfl ?_
    refine x_getA C (N := 129) (i := 0) (by decide) rfl vc_X11 wx_X11 5 (by decide) wf_X11_34 (a := 60) rfl dX11_worthOf_7 ?_
    refine x_getA C (N := 129) (i := 60) (by decide) rfl vc_X1 wx_X1 3 (by decide) wf_X11_379 (a := 68) rfl dX11_worthOf_10 ?_
    refine x_iload_n C.1 dX11_worthOf_13 2 rfl ?_
    refine x_iald C (N := 129) (i := 68) (q := x2) (by decide) rfl (by omega) (by decide) dX11_worthOf_14 (a := 0) (hwo _) ?_
    refine x_iload_n C.1 dX11_worthOf_15 1 rfl ?_
    refine x_iload_n C.1 dX11_worthOf_16 2 rfl ?_
    refine x_ishr C.1 (v := iShr x1 x2) rfl dX11_worthOf_17 ?_
    refine x_iconst C.1 (n := 1) dX11_worthOf_18 ?_
    refine x_iand C.1 (v := iAnd (iShr x1 x2) 1) rfl dX11_worthOf_19 ?_
    refine x_iconst C.1 (n := 1) dX11_worthOf_20 ?_
    refine x_icmp_ne C.1 (tgt := 36) dX11_worthOf_21 (by decide) (xi_r _) (by decide) (fun c21_2 => ?_) (fun c21_2 => ?_)
    · refine x_iconst C.1 (n := 0) dX11_worthOf_36 ?_
      refine x_isub C.1 (v := 0) (by decide) dX11_worthOf_37 ?_
      exact x_iret (S := Unit) (post := fun r _ => r = 0) (w1 := fun _ : Unit => XW cy ad V J Rr) (a := 0) C hr rfl dX11_worthOf_38 (by decide) () rfl (by omega)
    · refine x_aload_n C.1 dX11_worthOf_24 0 rfl ?_
      refine x_getA C (N := 129) (i := 0) (by decide) rfl vc_X11 wx_X11 5 (by decide) wf_X11_34 (a := 60) rfl dX11_worthOf_25 ?_
      refine x_getA C (N := 129) (i := 60) (by decide) rfl vc_X1 wx_X1 2 (by decide) wf_X11_382 (a := 67) rfl dX11_worthOf_28 ?_
      refine x_iload_n C.1 dX11_worthOf_31 2 rfl ?_
      refine x_iald C (N := 129) (i := 67) (q := x2) (by decide) rfl (by omega) (by decide) dX11_worthOf_32 (a := 0) (hco _) ?_
      refine x_goto C.1 (tgt := 37) dX11_worthOf_33 (by decide) ?_
      refine x_isub C.1 (v := 0) (by decide) dX11_worthOf_37 ?_
      exact x_iret (S := Unit) (post := fun r _ => r = 0) (w1 := fun _ : Unit => XW cy ad V J Rr) (a := 0) C hr rfl dX11_worthOf_38 (by decide) () rfl (by omega)
  · refine x_iconst C.1 (n := 0) dX11_worthOf_4 ?_
    exact x_iret (S := Unit) (post := fun r _ => r = 0) (w1 := fun _ : Unit => XW cy ad V J Rr) (a := 0) C hr rfl dX11_worthOf_5 (by decide) () rfl (by omega)
theorem hd_yX11_worthOf : yX11_worthOf.cls ≠ "java/lang/invoke/MethodHandle" ∧ yX11_worthOf.cls ≠ "java/lang/invoke/VarHandle" ∧ (parseMethodDescriptor yX11_worthOf.desc).map (fun d => d.parameters.length) = some 2 := by decide +kernel
theorem dX11_nobodyGains_0 : decode cX11_nobodyGains 0 = .ok (.iconst 0, 1) := by decide +kernel
theorem dX11_nobodyGains_1 : decode cX11_nobodyGains 1 = .ok (.istore_n 3, 1) := by decide +kernel
theorem dX11_nobodyGains_2 : decode cX11_nobodyGains 2 = .ok (.iload_n 3, 1) := by decide +kernel
theorem dX11_nobodyGains_3 : decode cX11_nobodyGains 3 = .ok (.iload_n 2, 1) := by decide +kernel
theorem dX11_nobodyGains_4 : decode cX11_nobodyGains 4 = .ok (.if_icmp .ge 30, 3) := by decide +kernel
theorem dX11_nobodyGains_7 : decode cX11_nobodyGains 7 = .ok (.aload_n 0, 1) := by decide +kernel
theorem dX11_nobodyGains_8 : decode cX11_nobodyGains 8 = .ok (.iload_n 1, 1) := by decide +kernel
theorem dX11_nobodyGains_9 : decode cX11_nobodyGains 9 = .ok (.iconst 1, 1) := by decide +kernel
theorem dX11_nobodyGains_10 : decode cX11_nobodyGains 10 = .ok (.iload_n 3, 1) := by decide +kernel
theorem dX11_nobodyGains_11 : decode cX11_nobodyGains 11 = .ok (.ishl, 1) := by decide +kernel
theorem dX11_nobodyGains_12 : decode cX11_nobodyGains 12 = .ok (.ixor, 1) := by decide +kernel
theorem dX11_nobodyGains_13 : decode cX11_nobodyGains 13 = .ok (.iload_n 3, 1) := by decide +kernel
theorem dX11_nobodyGains_14 : decode cX11_nobodyGains 14 = .ok (.invokevirtual 376, 3) := by decide +kernel
theorem dX11_nobodyGains_17 : decode cX11_nobodyGains 17 = .ok (.aload_n 0, 1) := by decide +kernel
theorem dX11_nobodyGains_18 : decode cX11_nobodyGains 18 = .ok (.iload_n 1, 1) := by decide +kernel
theorem dX11_nobodyGains_19 : decode cX11_nobodyGains 19 = .ok (.iload_n 3, 1) := by decide +kernel
theorem dX11_nobodyGains_20 : decode cX11_nobodyGains 20 = .ok (.invokevirtual 376, 3) := by decide +kernel
theorem dX11_nobodyGains_23 : decode cX11_nobodyGains 23 = .ok (.if_icmp .le 5, 3) := by decide +kernel
theorem dX11_nobodyGains_28 : decode cX11_nobodyGains 28 = .ok (.iinc 3 1, 3) := by decide +kernel
theorem dX11_nobodyGains_31 : decode cX11_nobodyGains 31 = .ok (.goto (-29), 3) := by decide +kernel
theorem dX11_nobodyGains_34 : decode cX11_nobodyGains 34 = .ok (.iconst 1, 1) := by decide +kernel
theorem dX11_nobodyGains_35 : decode cX11_nobodyGains 35 = .ok (.ireturn, 1) := by decide +kernel
set_option maxHeartbeats 4000000 in
set_option maxRecDepth 100000 in
theorem f_nobodyGains (l : Launch) (D : va_G) (cy : Nat → ClassId) (ad : Nat → Nat) (V J : Nat → Nat → Int) (Rr : Nat → Nat → Nat) (hV : VR V) (hJ : VJ J) (x1 x2 : Int) (hx1 : R32 x1) (hx2 : R32 x2) (hco : ∀ k, V 67 k = 0) (hwo : ∀ k, V 68 k = 0) (hr2 : x2 ≤ 6) : xMi l D (xTY cy) yX11_nobodyGains cX11_nobodyGains 4 (some .boolean) 1 22 0 0 [.ref (ad 0), vI x1, vI x2] (XW cy ad V J Rr) (fun _ : Unit => XW cy ad V J Rr) (fun r _ => r = 1) := by
  refine xMi.mk (lv0 := [(0, .ref (ad 0)), (1, vI x1), (2, vI x2)]) (by decide) rfl (Nat.le_of_ble_eq_true rfl) (fun p e s m below meth c A C hr hnm hAe => ?_)
  have C : xC2 p s m _ meth c D A s.heap 4 cX11_nobodyGains RX11 (xTY cy) := C
  refine x_iconst C.1 (n := 0) dX11_nobodyGains_0 ?_
  refine x_istore_n C.1 (lv' := [(3, vI 0), (0, .ref (ad 0)), (1, vI x1), (2, vI x2)]) dX11_nobodyGains_1 (by decide) rfl ?_
  refine x_loop (I := fun zi : Nat => zi ≤ 6) (μ := fun zi : Nat => 6 - zi) (wsf := fun zi : Nat => XW cy ad V J Rr) (lvf := fun zi : Nat => [(3, vI (zi : Int)), (0, .ref (ad 0)), (1, vI x1), (2, vI x2)]) (fun zi hI ih1 => ?_) (0) (Nat.zero_le _) rfl rfl
  obtain hz1 := hI
  try dsimp only
  refine x_iload_n C.1 dX11_nobodyGains_2 0 rfl ?_
  refine x_iload_n C.1 dX11_nobodyGains_3 3 rfl ?_
  refine x_icmp_ge C.1 (tgt := 34) dX11_nobodyGains_4 (by decide) (by omega) hx2 (fun c4_2 => ?_) (fun c4_2 => ?_)
  · refine x_iconst C.1 (n := 1) dX11_nobodyGains_34 ?_
    exact x_zret (S := Unit) (post := fun r _ => r = 1) (w1 := fun _ : Unit => XW cy ad V J Rr) (a := 1) C hr rfl dX11_nobodyGains_35 (by decide) () rfl (by omega)
  · refine x_aload_n C.1 dX11_nobodyGains_7 1 rfl ?_
    refine x_iload_n C.1 dX11_nobodyGains_8 2 rfl ?_
    refine x_iconst C.1 (n := 1) dX11_nobodyGains_9 ?_
    refine x_iload_n C.1 dX11_nobodyGains_10 0 rfl ?_
    refine x_ishl C.1 (v := iShl 1 (zi : Int)) rfl dX11_nobodyGains_11 ?_
    refine x_ixor C.1 (v := iXor x1 (iShl 1 (zi : Int))) rfl dX11_nobodyGains_12 ?_
    refine x_iload_n C.1 dX11_nobodyGains_13 0 rfl ?_
    refine x_callVi C (As := [vI (iXor x1 (iShl 1 (zi : Int))), vI (zi : Int)]) (rest := []) 0 (xw_at (N := 129) (i := 0) (by decide) rfl) vc_X11 (f_worthOf l D cy ad V J Rr hV hJ (iXor x1 (iShl 1 (zi : Int))) (zi : Int) (xi_r _) (by omega) hco hwo (by omega)) (l1 := []) (l2 := []) (List.append_nil _).symm (w2 := fun _ => XW cy ad V J Rr) (fun _ => List.append_nil _) rfl wm_yX11_worthOf wn_X11 wl_X11_376 wi_yX11_worthOf we_yX11_worthOf hd_yX11_worthOf rfl ⟨Nat.le_of_ble_eq_true rfl, Nat.le_of_ble_eq_true rfl⟩ (Nat.le_of_ble_eq_true rfl) ⟨Nat.le_of_ble_eq_true rfl, Nat.le_of_ble_eq_true rfl⟩ dX11_nobodyGains_14 (fun r3 u3 hr3 h3 => ?_)
    obtain rfl := h3
    refine x_aload_n C.1 dX11_nobodyGains_17 1 rfl ?_
    refine x_iload_n C.1 dX11_nobodyGains_18 2 rfl ?_
    refine x_iload_n C.1 dX11_nobodyGains_19 0 rfl ?_
    refine x_callVi C (As := [vI x1, vI (zi : Int)]) (rest := [vI 0]) 0 (xw_at (N := 129) (i := 0) (by decide) rfl) vc_X11 (f_worthOf l D cy ad V J Rr hV hJ x1 (zi : Int) hx1 (by omega) hco hwo (by omega)) (l1 := []) (l2 := []) (List.append_nil _).symm (w2 := fun _ => XW cy ad V J Rr) (fun _ => List.append_nil _) rfl wm_yX11_worthOf wn_X11 wl_X11_376 wi_yX11_worthOf we_yX11_worthOf hd_yX11_worthOf rfl ⟨Nat.le_of_ble_eq_true rfl, Nat.le_of_ble_eq_true rfl⟩ (Nat.le_of_ble_eq_true rfl) ⟨Nat.le_of_ble_eq_true rfl, Nat.le_of_ble_eq_true rfl⟩ dX11_nobodyGains_20 (fun r4 u4 hr4 h4 => ?_)
    obtain rfl := h4
    refine x_icmp_le_t C.1 (tgt := 28) dX11_nobodyGains_23 (by decide) (by decide) (by decide) (by decide) ?_
    refine x_iinc C.1 (v := (zi : Int) + 1) (lv' := [(3, vI ((zi : Int) + 1)), (0, .ref (ad 0)), (1, vI x1), (2, vI x2)]) rfl dX11_nobodyGains_28 0 rfl (by decide) rfl ?_
    refine x_goto C.1 (tgt := 2) dX11_nobodyGains_31 (by decide) ?_
    rw [← Int.natCast_add_one]
    exact ih1 (zi + 1) (by omega) (by omega)
theorem hd_yX11_power : yX11_power.cls ≠ "java/lang/invoke/MethodHandle" ∧ yX11_power.cls ≠ "java/lang/invoke/VarHandle" ∧ (parseMethodDescriptor yX11_power.desc).map (fun d => d.parameters.length) = some 1 := by decide +kernel
theorem dX11_evenTenths_0 : decode cX11_evenTenths 0 = .ok (.bipush 10, 2) := by decide +kernel
theorem dX11_evenTenths_2 : decode cX11_evenTenths 2 = .ok (.istore_n 2, 1) := by decide +kernel
theorem dX11_evenTenths_3 : decode cX11_evenTenths 3 = .ok (.iload_n 2, 1) := by decide +kernel
theorem dX11_evenTenths_4 : decode cX11_evenTenths 4 = .ok (.ifCond .lt 104, 3) := by decide +kernel
theorem dX11_evenTenths_7 : decode cX11_evenTenths 7 = .ok (.lconst 1, 1) := by decide +kernel
theorem dX11_evenTenths_8 : decode cX11_evenTenths 8 = .ok (.lstore_n 3, 1) := by decide +kernel
theorem dX11_evenTenths_9 : decode cX11_evenTenths 9 = .ok (.iconst 1, 1) := by decide +kernel
theorem dX11_evenTenths_10 : decode cX11_evenTenths 10 = .ok (.istore 5, 2) := by decide +kernel
theorem dX11_evenTenths_12 : decode cX11_evenTenths 12 = .ok (.iload 5, 2) := by decide +kernel
theorem dX11_evenTenths_14 : decode cX11_evenTenths 14 = .ok (.iload_n 1, 1) := by decide +kernel
theorem dX11_evenTenths_15 : decode cX11_evenTenths 15 = .ok (.if_icmp .ge 17, 3) := by decide +kernel
theorem dX11_evenTenths_18 : decode cX11_evenTenths 18 = .ok (.lload_n 3, 1) := by decide +kernel
theorem dX11_evenTenths_19 : decode cX11_evenTenths 19 = .ok (.bipush 10, 2) := by decide +kernel
theorem dX11_evenTenths_21 : decode cX11_evenTenths 21 = .ok (.iload_n 2, 1) := by decide +kernel
theorem dX11_evenTenths_22 : decode cX11_evenTenths 22 = .ok (.isub, 1) := by decide +kernel
theorem dX11_evenTenths_23 : decode cX11_evenTenths 23 = .ok (.i2l, 1) := by decide +kernel
theorem dX11_evenTenths_24 : decode cX11_evenTenths 24 = .ok (.lmul, 1) := by decide +kernel
theorem dX11_evenTenths_25 : decode cX11_evenTenths 25 = .ok (.lstore_n 3, 1) := by decide +kernel
theorem dX11_evenTenths_26 : decode cX11_evenTenths 26 = .ok (.iinc 5 1, 3) := by decide +kernel
theorem dX11_evenTenths_29 : decode cX11_evenTenths 29 = .ok (.goto (-17), 3) := by decide +kernel
theorem dX11_evenTenths_32 : decode cX11_evenTenths 32 = .ok (.iconst 1, 1) := by decide +kernel
theorem dX11_evenTenths_33 : decode cX11_evenTenths 33 = .ok (.istore 5, 2) := by decide +kernel
theorem dX11_evenTenths_35 : decode cX11_evenTenths 35 = .ok (.iconst 0, 1) := by decide +kernel
theorem dX11_evenTenths_36 : decode cX11_evenTenths 36 = .ok (.istore 6, 2) := by decide +kernel
theorem dX11_evenTenths_38 : decode cX11_evenTenths 38 = .ok (.iload 6, 2) := by decide +kernel
theorem dX11_evenTenths_40 : decode cX11_evenTenths 40 = .ok (.iload_n 1, 1) := by decide +kernel
theorem dX11_evenTenths_41 : decode cX11_evenTenths 41 = .ok (.if_icmp .ge 54, 3) := by decide +kernel
theorem dX11_evenTenths_44 : decode cX11_evenTenths 44 = .ok (.iload 5, 2) := by decide +kernel
theorem dX11_evenTenths_46 : decode cX11_evenTenths 46 = .ok (.aload_n 0, 1) := by decide +kernel
theorem dX11_evenTenths_47 : decode cX11_evenTenths 47 = .ok (.getfield 34, 3) := by decide +kernel
theorem dX11_evenTenths_50 : decode cX11_evenTenths 50 = .ok (.getfield 379, 3) := by decide +kernel
theorem dX11_evenTenths_53 : decode cX11_evenTenths 53 = .ok (.iload 6, 2) := by decide +kernel
theorem dX11_evenTenths_55 : decode cX11_evenTenths 55 = .ok (.iaload, 1) := by decide +kernel
theorem dX11_evenTenths_56 : decode cX11_evenTenths 56 = .ok (.i2l, 1) := by decide +kernel
theorem dX11_evenTenths_57 : decode cX11_evenTenths 57 = .ok (.lload_n 3, 1) := by decide +kernel
theorem dX11_evenTenths_58 : decode cX11_evenTenths 58 = .ok (.lmul, 1) := by decide +kernel
theorem dX11_evenTenths_59 : decode cX11_evenTenths 59 = .ok (.aload_n 0, 1) := by decide +kernel
theorem dX11_evenTenths_60 : decode cX11_evenTenths 60 = .ok (.getfield 34, 3) := by decide +kernel
theorem dX11_evenTenths_63 : decode cX11_evenTenths 63 = .ok (.getfield 382, 3) := by decide +kernel
theorem dX11_evenTenths_66 : decode cX11_evenTenths 66 = .ok (.iload 6, 2) := by decide +kernel
theorem dX11_evenTenths_68 : decode cX11_evenTenths 68 = .ok (.iaload, 1) := by decide +kernel
theorem dX11_evenTenths_69 : decode cX11_evenTenths 69 = .ok (.i2l, 1) := by decide +kernel
theorem dX11_evenTenths_70 : decode cX11_evenTenths 70 = .ok (.iload_n 1, 1) := by decide +kernel
theorem dX11_evenTenths_71 : decode cX11_evenTenths 71 = .ok (.iconst 1, 1) := by decide +kernel
theorem dX11_evenTenths_72 : decode cX11_evenTenths 72 = .ok (.isub, 1) := by decide +kernel
theorem dX11_evenTenths_73 : decode cX11_evenTenths 73 = .ok (.invokestatic 279, 3) := by decide +kernel
theorem dX11_evenTenths_76 : decode cX11_evenTenths 76 = .ok (.lmul, 1) := by decide +kernel
theorem dX11_evenTenths_77 : decode cX11_evenTenths 77 = .ok (.lcmp, 1) := by decide +kernel
theorem dX11_evenTenths_78 : decode cX11_evenTenths 78 = .ok (.ifCond .lt 7, 3) := by decide +kernel
theorem dX11_evenTenths_81 : decode cX11_evenTenths 81 = .ok (.iconst 1, 1) := by decide +kernel
theorem dX11_evenTenths_82 : decode cX11_evenTenths 82 = .ok (.goto 4, 3) := by decide +kernel
theorem dX11_evenTenths_86 : decode cX11_evenTenths 86 = .ok (.iand, 1) := by decide +kernel
theorem dX11_evenTenths_87 : decode cX11_evenTenths 87 = .ok (.istore 5, 2) := by decide +kernel
theorem dX11_evenTenths_89 : decode cX11_evenTenths 89 = .ok (.iinc 6 1, 3) := by decide +kernel
theorem dX11_evenTenths_92 : decode cX11_evenTenths 92 = .ok (.goto (-54), 3) := by decide +kernel
theorem dX11_evenTenths_95 : decode cX11_evenTenths 95 = .ok (.iload 5, 2) := by decide +kernel
theorem dX11_evenTenths_97 : decode cX11_evenTenths 97 = .ok (.ifCond .eq 5, 3) := by decide +kernel
theorem dX11_evenTenths_100 : decode cX11_evenTenths 100 = .ok (.iload_n 2, 1) := by decide +kernel
theorem dX11_evenTenths_101 : decode cX11_evenTenths 101 = .ok (.ireturn, 1) := by decide +kernel
set_option maxHeartbeats 4000000 in
set_option maxRecDepth 100000 in
theorem f_evenTenths (l : Launch) (D : va_G) (cy : Nat → ClassId) (ad : Nat → Nat) (V J : Nat → Nat → Int) (Rr : Nat → Nat → Nat) (hV : VR V) (hJ : VJ J) (x1 : Int) (hx1 : R32 x1) (hco : ∀ k, V 67 k = 0) (hwo : ∀ k, V 68 k = 0) (hr1 : 2 ≤ x1 ∧ x1 ≤ 6) : xMi l D (xTY cy) yX11_evenTenths cX11_evenTenths 7 (some .int) 1 23 0 0 [.ref (ad 0), vI x1] (XW cy ad V J Rr) (fun _ : Unit => XW cy ad V J Rr) (fun r _ => r = 10) := by
  refine xMi.mk (lv0 := [(0, .ref (ad 0)), (1, vI x1)]) (by decide) rfl (Nat.le_of_ble_eq_true rfl) (fun p e s m below meth c A C hr hnm hAe => ?_)
  have C : xC2 p s m _ meth c D A s.heap 7 cX11_evenTenths RX11 (xTY cy) := C
  refine x_bipush C.1 (n := 10) dX11_evenTenths_0 ?_
  refine x_istore_n C.1 (lv' := [(2, vI 10), (0, .ref (ad 0)), (1, vI x1)]) dX11_evenTenths_2 (by decide) rfl ?_
  refine x_iload_n C.1 dX11_evenTenths_3 0 rfl ?_
  refine x_if_lt_f C.1 (tgt := 108) dX11_evenTenths_4 (by decide) (by decide) (by decide) ?_
  refine x_lconst1 C.1 dX11_evenTenths_7 ?_
  refine x_lstore_n C.1 (lv' := [(3, vJ 1), (2, vI 10), (0, .ref (ad 0)), (1, vI x1)]) dX11_evenTenths_8 (by decide) rfl ?_
  refine x_iconst C.1 (n := 1) dX11_evenTenths_9 ?_
  refine x_istore C.1 (lv' := [(5, vI 1), (3, vJ 1), (2, vI 10), (0, .ref (ad 0)), (1, vI x1)]) dX11_evenTenths_10 (by decide) rfl ?_
  refine x_loop (I := fun x : Nat × Int => match x with | (zi, zn) => 1 ≤ zi ∧ zi ≤ x1 ∧ (zi = 1 ∧ zn = 1 ∨ 2 ≤ zi ∧ zn = 0)) (μ := fun x : Nat × Int => match x with | (zi, zn) => (x1 - zi).toNat) (wsf := fun x : Nat × Int => match x with | (zi, zn) => XW cy ad V J Rr) (lvf := fun x : Nat × Int => match x with | (zi, zn) => [(5, vI (zi : Int)), (3, vJ zn), (2, vI 10), (0, .ref (ad 0)), (1, vI x1)]) (fun x hI ih1 => ?_) (1, 1) ⟨by decide, by omega, Or.inl ⟨rfl, rfl⟩⟩ rfl rfl
  obtain ⟨zi, zn⟩ := x
  obtain ⟨hz1, hz2, hz3⟩ := hI
  try dsimp only
  refine x_iload C.1 dX11_evenTenths_12 0 rfl ?_
  refine x_iload_n C.1 dX11_evenTenths_14 4 rfl ?_
  refine x_icmp_ge C.1 (tgt := 32) dX11_evenTenths_15 (by decide) (by omega) hx1 (fun c15_2 => ?_) (fun c15_2 => ?_)
  · obtain rfl : zn = 0 := by omega
    refine x_iconst C.1 (n := 1) dX11_evenTenths_32 ?_
    refine x_istore C.1 (lv' := [(5, vI 1), (3, vJ 0), (2, vI 10), (0, .ref (ad 0)), (1, vI x1)]) dX11_evenTenths_33 (by decide) rfl ?_
    refine x_iconst C.1 (n := 0) dX11_evenTenths_35 ?_
    refine x_istore C.1 (lv' := [(6, vI 0), (5, vI 1), (3, vJ 0), (2, vI 10), (0, .ref (ad 0)), (1, vI x1)]) dX11_evenTenths_36 (by decide) rfl ?_
    refine x_loop (I := fun zp : Nat => zp ≤ 6) (μ := fun zp : Nat => 6 - zp) (wsf := fun zp : Nat => XW cy ad V J Rr) (lvf := fun zp : Nat => [(6, vI (zp : Int)), (5, vI 1), (3, vJ 0), (2, vI 10), (0, .ref (ad 0)), (1, vI x1)]) (fun zp hI ih3 => ?_) (0) (Nat.zero_le _) rfl rfl
    obtain hzp := hI
    try dsimp only
    refine x_iload C.1 dX11_evenTenths_38 0 rfl ?_
    refine x_iload_n C.1 dX11_evenTenths_40 5 rfl ?_
    refine x_icmp_ge C.1 (tgt := 95) dX11_evenTenths_41 (by decide) (by omega) hx1 (fun c41_4 => ?_) (fun c41_4 => ?_)
    · refine x_iload C.1 dX11_evenTenths_95 1 rfl ?_
      refine x_if_eq_f C.1 (tgt := 102) dX11_evenTenths_97 (by decide) (by decide) (by decide) ?_
      refine x_iload_n C.1 dX11_evenTenths_100 3 rfl ?_
      exact x_iret (S := Unit) (post := fun r _ => r = 10) (w1 := fun _ : Unit => XW cy ad V J Rr) (a := 10) C hr rfl dX11_evenTenths_101 (by decide) () rfl (by omega)
    · refine x_iload C.1 dX11_evenTenths_44 1 rfl ?_
      refine x_aload_n C.1 dX11_evenTenths_46 4 rfl ?_
      refine x_getA C (N := 129) (i := 0) (by decide) rfl vc_X11 wx_X11 5 (by decide) wf_X11_34 (a := 60) rfl dX11_evenTenths_47 ?_
      refine x_getA C (N := 129) (i := 60) (by decide) rfl vc_X1 wx_X1 3 (by decide) wf_X11_379 (a := 68) rfl dX11_evenTenths_50 ?_
      refine x_iload C.1 dX11_evenTenths_53 0 rfl ?_
      refine x_iald C (N := 129) (i := 68) (q := (zp : Int)) (by decide) rfl (by omega) (by decide) dX11_evenTenths_55 (a := 0) (hwo _) ?_
      refine x_i2l C.1 dX11_evenTenths_56 (by decide) ?_
      refine x_lload_n C.1 dX11_evenTenths_57 2 rfl ?_
      refine x_lmul C.1 (v := 0) (by decide) dX11_evenTenths_58 ?_
      refine x_aload_n C.1 dX11_evenTenths_59 4 rfl ?_
      refine x_getA C (N := 129) (i := 0) (by decide) rfl vc_X11 wx_X11 5 (by decide) wf_X11_34 (a := 60) rfl dX11_evenTenths_60 ?_
      refine x_getA C (N := 129) (i := 60) (by decide) rfl vc_X1 wx_X1 2 (by decide) wf_X11_382 (a := 67) rfl dX11_evenTenths_63 ?_
      refine x_iload C.1 dX11_evenTenths_66 0 rfl ?_
      refine x_iald C (N := 129) (i := 67) (q := (zp : Int)) (by decide) rfl (by omega) (by decide) dX11_evenTenths_68 (a := 0) (hco _) ?_
      refine x_i2l C.1 dX11_evenTenths_69 (by decide) ?_
      refine x_iload_n C.1 dX11_evenTenths_70 5 rfl ?_
      refine x_iconst C.1 (n := 1) dX11_evenTenths_71 ?_
      refine x_isub C.1 (v := x1 - 1) rfl dX11_evenTenths_72 ?_
      refine x_callSl C (As := [vI (x1 - 1)]) (rest := [vJ 0, vJ 0, vI 1]) (c_power l D cy (x1 - 1) (by omega) (by omega)) (l1 := []) (l2 := _) rfl (w2 := fun _ => _) (fun _ => rfl) rfl wm_yX11_power wn_X11 wl_X11_279 wi_yX11_power hd_yX11_power rfl ⟨Nat.le_of_ble_eq_true rfl, Nat.le_of_ble_eq_true rfl⟩ (Nat.le_of_ble_eq_true rfl) ⟨Nat.le_of_ble_eq_true rfl, Nat.le_of_ble_eq_true rfl⟩ dX11_evenTenths_73 (fun r5 u5 hr5 h5 => ?_)
      obtain rfl := h5
      refine x_lmul C.1 (v := 0) (Int.zero_mul _) dX11_evenTenths_76 ?_
      refine x_lcmp C.1 (v := 0) (by decide) dX11_evenTenths_77 (by decide) (by decide) ?_
      refine x_if_lt_f C.1 (tgt := 85) dX11_evenTenths_78 (by decide) (by decide) (by decide) ?_
      refine x_iconst C.1 (n := 1) dX11_evenTenths_81 ?_
      refine x_goto C.1 (tgt := 86) dX11_evenTenths_82 (by decide) ?_
      refine x_iand C.1 (v := 1) (by decide) dX11_evenTenths_86 ?_
      refine x_istore C.1 (lv' := [(5, vI 1), (6, vI (zp : Int)), (3, vJ 0), (2, vI 10), (0, .ref (ad 0)), (1, vI x1)]) dX11_evenTenths_87 (by decide) rfl ?_
      refine x_iinc C.1 (v := (zp : Int) + 1) (lv' := [(6, vI ((zp : Int) + 1)), (5, vI 1), (3, vJ 0), (2, vI 10), (0, .ref (ad 0)), (1, vI x1)]) rfl dX11_evenTenths_89 1 rfl (by decide) rfl ?_
      refine x_goto C.1 (tgt := 38) dX11_evenTenths_92 (by decide) ?_
      rw [← Int.natCast_add_one]
      exact ih3 (zp + 1) (by omega) (by omega)
  · refine x_lload_n C.1 dX11_evenTenths_18 1 rfl ?_
    refine x_bipush C.1 (n := 10) dX11_evenTenths_19 ?_
    refine x_iload_n C.1 dX11_evenTenths_21 2 rfl ?_
    refine x_isub C.1 (v := 0) (by decide) dX11_evenTenths_22 ?_
    refine x_i2l C.1 dX11_evenTenths_23 (by decide) ?_
    refine x_lmul C.1 (v := 0) (Int.mul_zero _) dX11_evenTenths_24 ?_
    refine x_lstore_n C.1 (lv' := [(3, vJ 0), (5, vI (zi : Int)), (2, vI 10), (0, .ref (ad 0)), (1, vI x1)]) dX11_evenTenths_25 (by decide) rfl ?_
    refine x_iinc C.1 (v := (zi : Int) + 1) (lv' := [(5, vI ((zi : Int) + 1)), (3, vJ 0), (2, vI 10), (0, .ref (ad 0)), (1, vI x1)]) rfl dX11_evenTenths_26 1 rfl (by decide) rfl ?_
    refine x_goto C.1 (tgt := 12) dX11_evenTenths_29 (by decide) ?_
    rw [← Int.natCast_add_one]
    exact ih1 (zi + 1, 0) ⟨by omega, by omega, by omega⟩ (by (try dsimp only); omega)
theorem hd_yX11_evenTenths : yX11_evenTenths.cls ≠ "java/lang/invoke/MethodHandle" ∧ yX11_evenTenths.cls ≠ "java/lang/invoke/VarHandle" ∧ (parseMethodDescriptor yX11_evenTenths.desc).map (fun d => d.parameters.length) = some 1 := by decide +kernel
theorem hd_yX11_nobodyGains : yX11_nobodyGains.cls ≠ "java/lang/invoke/MethodHandle" ∧ yX11_nobodyGains.cls ≠ "java/lang/invoke/VarHandle" ∧ (parseMethodDescriptor yX11_nobodyGains.desc).map (fun d => d.parameters.length) = some 2 := by decide +kernel
theorem hd_yX1_setPrices : yX1_setPrices.cls ≠ "java/lang/invoke/MethodHandle" ∧ yX1_setPrices.cls ≠ "java/lang/invoke/VarHandle" ∧ (parseMethodDescriptor yX1_setPrices.desc).map (fun d => d.parameters.length) = some 2 := by decide +kernel
theorem dX11_alone_0 : decode cX11_alone 0 = .ok (.iload_n 1, 1) := by decide +kernel
theorem dX11_alone_1 : decode cX11_alone 1 = .ok (.iconst 2, 1) := by decide +kernel
theorem dX11_alone_2 : decode cX11_alone 2 = .ok (.bipush 6, 2) := by decide +kernel
theorem dX11_alone_4 : decode cX11_alone 4 = .ok (.invokestatic 74, 3) := by decide +kernel
theorem dX11_alone_7 : decode cX11_alone 7 = .ok (.ifCond .eq 12, 3) := by decide +kernel
theorem dX11_alone_10 : decode cX11_alone 10 = .ok (.iload_n 2, 1) := by decide +kernel
theorem dX11_alone_11 : decode cX11_alone 11 = .ok (.iconst 0, 1) := by decide +kernel
theorem dX11_alone_12 : decode cX11_alone 12 = .ok (.iconst 2, 1) := by decide +kernel
theorem dX11_alone_13 : decode cX11_alone 13 = .ok (.invokestatic 74, 3) := by decide +kernel
theorem dX11_alone_16 : decode cX11_alone 16 = .ok (.ifCond .ne 5, 3) := by decide +kernel
theorem dX11_alone_19 : decode cX11_alone 19 = .ok (.iconst (-1), 1) := by decide +kernel
theorem dX11_alone_20 : decode cX11_alone 20 = .ok (.ireturn, 1) := by decide +kernel
theorem dX11_alone_21 : decode cX11_alone 21 = .ok (.aload_n 0, 1) := by decide +kernel
theorem dX11_alone_22 : decode cX11_alone 22 = .ok (.getfield 34, 3) := by decide +kernel
theorem dX11_alone_25 : decode cX11_alone 25 = .ok (.aload_n 0, 1) := by decide +kernel
theorem dX11_alone_26 : decode cX11_alone 26 = .ok (.getfield 10, 3) := by decide +kernel
theorem dX11_alone_29 : decode cX11_alone 29 = .ok (.iload_n 1, 1) := by decide +kernel
theorem dX11_alone_30 : decode cX11_alone 30 = .ok (.invokevirtual 310, 3) := by decide +kernel
theorem dX11_alone_33 : decode cX11_alone 33 = .ok (.iload_n 2, 1) := by decide +kernel
theorem dX11_alone_34 : decode cX11_alone 34 = .ok (.iconst 2, 1) := by decide +kernel
theorem dX11_alone_35 : decode cX11_alone 35 = .ok (.if_icmp .ne 9, 3) := by decide +kernel
theorem dX11_alone_38 : decode cX11_alone 38 = .ok (.aload_n 0, 1) := by decide +kernel
theorem dX11_alone_39 : decode cX11_alone 39 = .ok (.iload_n 1, 1) := by decide +kernel
theorem dX11_alone_40 : decode cX11_alone 40 = .ok (.invokevirtual 314, 3) := by decide +kernel
theorem dX11_alone_43 : decode cX11_alone 43 = .ok (.ireturn, 1) := by decide +kernel
theorem dX11_alone_44 : decode cX11_alone 44 = .ok (.iconst 0, 1) := by decide +kernel
theorem dX11_alone_45 : decode cX11_alone 45 = .ok (.istore_n 3, 1) := by decide +kernel
theorem dX11_alone_46 : decode cX11_alone 46 = .ok (.bipush (-2), 2) := by decide +kernel
theorem dX11_alone_48 : decode cX11_alone 48 = .ok (.istore 4, 2) := by decide +kernel
theorem dX11_alone_50 : decode cX11_alone 50 = .ok (.iconst 0, 1) := by decide +kernel
theorem dX11_alone_51 : decode cX11_alone 51 = .ok (.istore 5, 2) := by decide +kernel
theorem dX11_alone_53 : decode cX11_alone 53 = .ok (.iload 5, 2) := by decide +kernel
theorem dX11_alone_55 : decode cX11_alone 55 = .ok (.iconst 1, 1) := by decide +kernel
theorem dX11_alone_56 : decode cX11_alone 56 = .ok (.iload_n 1, 1) := by decide +kernel
theorem dX11_alone_57 : decode cX11_alone 57 = .ok (.ishl, 1) := by decide +kernel
theorem dX11_alone_58 : decode cX11_alone 58 = .ok (.if_icmp .ge 38, 3) := by decide +kernel
theorem dX11_alone_61 : decode cX11_alone 61 = .ok (.aload_n 0, 1) := by decide +kernel
theorem dX11_alone_62 : decode cX11_alone 62 = .ok (.iload 5, 2) := by decide +kernel
theorem dX11_alone_64 : decode cX11_alone 64 = .ok (.iload_n 1, 1) := by decide +kernel
theorem dX11_alone_65 : decode cX11_alone 65 = .ok (.invokevirtual 317, 3) := by decide +kernel
theorem dX11_alone_68 : decode cX11_alone 68 = .ok (.ifCond .eq 22, 3) := by decide +kernel
theorem dX11_alone_71 : decode cX11_alone 71 = .ok (.iinc 3 1, 3) := by decide +kernel
theorem dX11_alone_74 : decode cX11_alone 74 = .ok (.iload 4, 2) := by decide +kernel
theorem dX11_alone_76 : decode cX11_alone 76 = .ok (.bipush (-2), 2) := by decide +kernel
theorem dX11_alone_78 : decode cX11_alone 78 = .ok (.if_icmp .ne 8, 3) := by decide +kernel
theorem dX11_alone_81 : decode cX11_alone 81 = .ok (.iload 5, 2) := by decide +kernel
theorem dX11_alone_83 : decode cX11_alone 83 = .ok (.goto 5, 3) := by decide +kernel
theorem dX11_alone_86 : decode cX11_alone 86 = .ok (.iload 4, 2) := by decide +kernel
theorem dX11_alone_88 : decode cX11_alone 88 = .ok (.istore 4, 2) := by decide +kernel
theorem dX11_alone_90 : decode cX11_alone 90 = .ok (.iinc 5 1, 3) := by decide +kernel
theorem dX11_alone_93 : decode cX11_alone 93 = .ok (.goto (-40), 3) := by decide +kernel
theorem dX11_alone_96 : decode cX11_alone 96 = .ok (.iload_n 2, 1) := by decide +kernel
theorem dX11_alone_97 : decode cX11_alone 97 = .ok (.ifCond .ne 7, 3) := by decide +kernel
theorem dX11_alone_100 : decode cX11_alone 100 = .ok (.iload_n 3, 1) := by decide +kernel
theorem dX11_alone_101 : decode cX11_alone 101 = .ok (.goto 5, 3) := by decide +kernel
theorem dX11_alone_104 : decode cX11_alone 104 = .ok (.iload 4, 2) := by decide +kernel
theorem dX11_alone_106 : decode cX11_alone 106 = .ok (.ireturn, 1) := by decide +kernel
set_option maxHeartbeats 4000000 in
set_option maxRecDepth 100000 in
theorem f_alone (l : Launch) (D : va_G) (cy : Nat → ClassId) (ad : Nat → Nat) (V J : Nat → Nat → Int) (Rr : Nat → Nat → Nat) (hV : VR V) (hJ : VJ J) (x1 x2 : Int) (hx1 : R32 x1) (hx2 : R32 x2) (hnp : NPl V 1) (hne : NPe V 1) (htl : V 58 1 = 0) (hcl : ∀ t, isTx t → V t 5 = 0) (hlw : Rr 60 0 = 61) (hco0 : ∀ k, V 67 k = 0) (hwo0 : ∀ k, V 68 k = 0) : xMi l D (xTY cy) yX11_alone cX11_alone 6 (some .int) 3 68 0 0 [.ref (ad 0), vI x1, vI x2] (XW cy ad V J Rr) (fun u : xS => XW cy ad u.1 u.2.1 u.2.2) (fun r _ => (2 ≤ x1 ∧ x1 ≤ 6 ∧ (x2 = 2 ∧ r = 10 ∨ x2 = 1 ∧ r = 0 ∨ x2 = 0 ∧ r = iShl 1 x1)) ∨ (¬ (2 ≤ x1 ∧ x1 ≤ 6 ∧ 0 ≤ x2 ∧ x2 ≤ 2) ∧ r = -1)) := by
  refine xMi.mk (lv0 := [(0, .ref (ad 0)), (1, vI x1), (2, vI x2)]) (by decide) rfl (Nat.le_of_ble_eq_true rfl) (fun p e s m below meth c A C hr hnm hAe => ?_)
  have C : xC2 p s m _ meth c D A s.heap 6 cX11_alone RX11 (xTY cy) := C
  refine x_iload_n C.1 dX11_alone_0 1 rfl ?_
  refine x_iconst C.1 (n := 2) dX11_alone_1 ?_
  refine x_bipush C.1 (n := 6) dX11_alone_2 ?_
  refine x_callSi C (As := [vI x1, vI 2, vI 6]) (rest := []) (c_isWithin l D cy x1 2 6 hx1 (by decide) (by decide)) (l1 := []) (l2 := _) rfl (w2 := fun _ => _) (fun _ => rfl) rfl wm_yX11_isWithin wn_X11 wl_X11_74 wi_yX11_isWithin hd_yX11_isWithin rfl ⟨Nat.le_of_ble_eq_true rfl, Nat.le_of_ble_eq_true rfl⟩ (Nat.le_of_ble_eq_true rfl) ⟨Nat.le_of_ble_eq_true rfl, Nat.le_of_ble_eq_true rfl⟩ dX11_alone_4 (fun r1 u1 hr1 h1 => ?_)
  rcases h1 with ⟨rfl, t1, t1b⟩ | ⟨rfl, t1⟩
  · refine x_if_eq_f C.1 (tgt := 19) dX11_alone_7 (by decide) (by decide) (by decide) ?_
    refine x_iload_n C.1 dX11_alone_10 2 rfl ?_
    refine x_iconst C.1 (n := 0) dX11_alone_11 ?_
    refine x_iconst C.1 (n := 2) dX11_alone_12 ?_
    refine x_callSi C (As := [vI x2, vI 0, vI 2]) (rest := []) (c_isWithin l D cy x2 0 2 hx2 (by decide) (by decide)) (l1 := []) (l2 := _) rfl (w2 := fun _ => _) (fun _ => rfl) rfl wm_yX11_isWithin wn_X11 wl_X11_74 wi_yX11_isWithin hd_yX11_isWithin rfl ⟨Nat.le_of_ble_eq_true rfl, Nat.le_of_ble_eq_true rfl⟩ (Nat.le_of_ble_eq_true rfl) ⟨Nat.le_of_ble_eq_true rfl, Nat.le_of_ble_eq_true rfl⟩ dX11_alone_13 (fun r2 u2 hr2 h2 => ?_)
    rcases h2 with ⟨rfl, t2, t2b⟩ | ⟨rfl, t2⟩
    · refine x_if_ne_t C.1 (tgt := 21) dX11_alone_16 (by decide) (by decide) (by decide) ?_
      refine x_aload_n C.1 dX11_alone_21 0 rfl ?_
      refine x_getA C (N := 129) (i := 0) (by decide) rfl vc_X11 wx_X11 5 (by decide) wf_X11_34 (a := 60) rfl dX11_alone_22 ?_
      refine x_aload_n C.1 dX11_alone_25 0 rfl ?_
      refine x_getA C (N := 129) (i := 0) (by decide) rfl vc_X11 wx_X11 0 (by decide) wf_X11_10 (a := 1) rfl dX11_alone_26 ?_
      refine x_iload_n C.1 dX11_alone_29 1 rfl ?_
      refine x_callVv C (As := [.ref (ad 1), vI x1]) (rest := []) 60 (xw_at (N := 129) (i := 60) (by decide) rfl) vc_X1 (f_setPrices l D cy ad V J Rr hV hJ x1 hx1 hlw (hcl _ (Or.inl rfl)) hco0 hwo0) (l1 := []) (l2 := []) (List.append_nil _).symm (w2 := fun u : xS => XW cy ad u.1 u.2.1 u.2.2) (fun _ => List.append_nil _) rfl wm_yX1_setPrices wn_X1 wl_X11_310 wi_yX1_setPrices we_yX1_setPrices hd_yX1_setPrices rfl ⟨Nat.le_of_ble_eq_true rfl, Nat.le_of_ble_eq_true rfl⟩ (Nat.le_of_ble_eq_true rfl) ⟨Nat.le_of_ble_eq_true rfl, Nat.le_of_ble_eq_true rfl⟩ dX11_alone_30 (fun u3 h3 => ?_)
      obtain ⟨zV3, zJ3, zR3⟩ := u3
      obtain ⟨hzb3, hco, hwo, hzd3⟩ := h3
      obtain ⟨rfl, rfl⟩ := Prod.mk.inj hzd3
      try dsimp only at hzb3 hco hwo ⊢
      refine x_iload_n C.1 dX11_alone_33 2 rfl ?_
      refine x_iconst C.1 (n := 2) dX11_alone_34 ?_
      refine x_icmp_ne C.1 (tgt := 44) dX11_alone_35 (by decide) hx2 (by decide) (fun c35_4 => ?_) (fun c35_4 => ?_)
      · have hP := shl_26 (x := x1) (by omega)
        refine x_iconst C.1 (n := 0) dX11_alone_44 ?_
        refine x_istore_n C.1 (lv' := [(3, vI 0), (0, .ref (ad 0)), (1, vI x1), (2, vI x2)]) dX11_alone_45 (by decide) rfl ?_
        refine x_bipush C.1 (n := -2) dX11_alone_46 ?_
        refine x_istore C.1 (lv' := [(4, vI (-2)), (3, vI 0), (0, .ref (ad 0)), (1, vI x1), (2, vI x2)]) dX11_alone_48 (by decide) rfl ?_
        refine x_iconst C.1 (n := 0) dX11_alone_50 ?_
        refine x_istore C.1 (lv' := [(5, vI 0), (4, vI (-2)), (3, vI 0), (0, .ref (ad 0)), (1, vI x1), (2, vI x2)]) dX11_alone_51 (by decide) rfl ?_
        refine x_loop (I := fun x : Nat × Int => match x with | (zr, zl) => zr ≤ iShl 1 x1 ∧ (zr = 0 ∧ zl = -2 ∨ 1 ≤ zr ∧ zl = 0)) (μ := fun x : Nat × Int => match x with | (zr, zl) => (iShl 1 x1 - zr).toNat) (wsf := fun x : Nat × Int => match x with | (zr, zl) => XW cy ad zV3 J Rr) (lvf := fun x : Nat × Int => match x with | (zr, zl) => [(5, vI (zr : Int)), (4, vI zl), (3, vI (zr : Int)), (0, .ref (ad 0)), (1, vI x1), (2, vI x2)]) (fun x hI ih5 => ?_) (0, -2) ⟨by omega, Or.inl ⟨rfl, rfl⟩⟩ rfl rfl
        obtain ⟨zr, zl⟩ := x
        obtain ⟨hz1, hz2⟩ := hI
        try dsimp only
        refine x_iload C.1 dX11_alone_53 0 rfl ?_
        refine x_iconst C.1 (n := 1) dX11_alone_55 ?_
        refine x_iload_n C.1 dX11_alone_56 4 rfl ?_
        refine x_ishl C.1 (v := iShl 1 x1) rfl dX11_alone_57 ?_
        refine x_icmp_ge C.1 (tgt := 96) dX11_alone_58 (by decide) (by omega) (xi_r _) (fun c58_6 => ?_) (fun c58_6 => ?_)
        · refine x_iload_n C.1 dX11_alone_96 5 rfl ?_
          refine x_if_ne C.1 (tgt := 104) dX11_alone_97 (by decide) hx2 (fun c97_7 => ?_) (fun c97_7 => ?_)
          · refine x_iload C.1 dX11_alone_104 1 rfl ?_
            exact x_iret (S := xS) (post := fun r _ => (2 ≤ x1 ∧ x1 ≤ 6 ∧ (x2 = 2 ∧ r = 10 ∨ x2 = 1 ∧ r = 0 ∨ x2 = 0 ∧ r = iShl 1 x1)) ∨ (¬ (2 ≤ x1 ∧ x1 ≤ 6 ∧ 0 ≤ x2 ∧ x2 ≤ 2) ∧ r = -1)) (w1 := fun u : xS => XW cy ad u.1 u.2.1 u.2.2) (a := zl) C hr rfl dX11_alone_106 (by omega) (zV3, J, Rr) rfl (by omega)
          · refine x_iload_n C.1 dX11_alone_100 2 rfl ?_
            refine x_goto C.1 (tgt := 106) dX11_alone_101 (by decide) ?_
            exact x_iret (S := xS) (post := fun r _ => (2 ≤ x1 ∧ x1 ≤ 6 ∧ (x2 = 2 ∧ r = 10 ∨ x2 = 1 ∧ r = 0 ∨ x2 = 0 ∧ r = iShl 1 x1)) ∨ (¬ (2 ≤ x1 ∧ x1 ≤ 6 ∧ 0 ≤ x2 ∧ x2 ≤ 2) ∧ r = -1)) (w1 := fun u : xS => XW cy ad u.1 u.2.1 u.2.2) (a := (zr : Int)) C hr rfl dX11_alone_106 (by omega) (zV3, J, Rr) rfl (by omega)
        · refine x_aload_n C.1 dX11_alone_61 3 rfl ?_
          refine x_iload C.1 dX11_alone_62 0 rfl ?_
          refine x_iload_n C.1 dX11_alone_64 4 rfl ?_
          refine x_callVi C (As := [vI (zr : Int), vI x1]) (rest := []) 0 (xw_at (N := 129) (i := 0) (by decide) rfl) vc_X11 (f_nobodyGains l D cy ad zV3 J Rr hzb3 hJ (zr : Int) x1 (by omega) hx1 hco hwo (by omega)) (l1 := []) (l2 := []) (List.append_nil _).symm (w2 := fun _ => XW cy ad zV3 J Rr) (fun _ => List.append_nil _) rfl wm_yX11_nobodyGains wn_X11 wl_X11_317 wi_yX11_nobodyGains we_yX11_nobodyGains hd_yX11_nobodyGains rfl ⟨Nat.le_of_ble_eq_true rfl, Nat.le_of_ble_eq_true rfl⟩ (Nat.le_of_ble_eq_true rfl) ⟨Nat.le_of_ble_eq_true rfl, Nat.le_of_ble_eq_true rfl⟩ dX11_alone_65 (fun r8 u8 hr8 h8 => ?_)
          obtain rfl := h8
          refine x_if_eq_f C.1 (tgt := 90) dX11_alone_68 (by decide) (by decide) (by decide) ?_
          refine x_iinc C.1 (v := (zr : Int) + 1) (lv' := [(3, vI ((zr : Int) + 1)), (5, vI (zr : Int)), (4, vI zl), (0, .ref (ad 0)), (1, vI x1), (2, vI x2)]) rfl dX11_alone_71 2 rfl (by decide) rfl ?_
          refine x_iload C.1 dX11_alone_74 2 rfl ?_
          refine x_bipush C.1 (n := -2) dX11_alone_76 ?_
          refine x_icmp_ne C.1 (tgt := 86) dX11_alone_78 (by decide) (by omega) (by decide) (fun c78_9 => ?_) (fun c78_9 => ?_)
          · refine x_iload C.1 dX11_alone_86 2 rfl ?_
            refine x_istore C.1 (lv' := [(4, vI zl), (3, vI ((zr : Int) + 1)), (5, vI (zr : Int)), (0, .ref (ad 0)), (1, vI x1), (2, vI x2)]) dX11_alone_88 (by decide) rfl ?_
            refine x_iinc C.1 (v := (zr : Int) + 1) (lv' := [(5, vI ((zr : Int) + 1)), (4, vI zl), (3, vI ((zr : Int) + 1)), (0, .ref (ad 0)), (1, vI x1), (2, vI x2)]) rfl dX11_alone_90 2 rfl (by decide) rfl ?_
            refine x_goto C.1 (tgt := 53) dX11_alone_93 (by decide) ?_
            rw [← Int.natCast_add_one]
            exact ih5 (zr + 1, zl) ⟨by omega, by omega⟩ (by (try dsimp only); omega)
          · refine x_iload C.1 dX11_alone_81 1 rfl ?_
            refine x_goto C.1 (tgt := 88) dX11_alone_83 (by decide) ?_
            refine x_istore C.1 (lv' := [(4, vI (zr : Int)), (3, vI ((zr : Int) + 1)), (5, vI (zr : Int)), (0, .ref (ad 0)), (1, vI x1), (2, vI x2)]) dX11_alone_88 (by decide) rfl ?_
            refine x_iinc C.1 (v := (zr : Int) + 1) (lv' := [(5, vI ((zr : Int) + 1)), (4, vI (zr : Int)), (3, vI ((zr : Int) + 1)), (0, .ref (ad 0)), (1, vI x1), (2, vI x2)]) rfl dX11_alone_90 2 rfl (by decide) rfl ?_
            refine x_goto C.1 (tgt := 53) dX11_alone_93 (by decide) ?_
            rw [← Int.natCast_add_one]
            exact ih5 (zr + 1, (zr : Int)) ⟨by omega, by omega⟩ (by (try dsimp only); omega)
      · refine x_aload_n C.1 dX11_alone_38 0 rfl ?_
        refine x_iload_n C.1 dX11_alone_39 1 rfl ?_
        refine x_callVi C (As := [vI x1]) (rest := []) 0 (xw_at (N := 129) (i := 0) (by decide) rfl) vc_X11 (f_evenTenths l D cy ad zV3 J Rr hzb3 hJ x1 hx1 hco hwo (by omega)) (l1 := []) (l2 := []) (List.append_nil _).symm (w2 := fun _ => XW cy ad zV3 J Rr) (fun _ => List.append_nil _) rfl wm_yX11_evenTenths wn_X11 wl_X11_314 wi_yX11_evenTenths we_yX11_evenTenths hd_yX11_evenTenths rfl ⟨Nat.le_of_ble_eq_true rfl, Nat.le_of_ble_eq_true rfl⟩ (Nat.le_of_ble_eq_true rfl) ⟨Nat.le_of_ble_eq_true rfl, Nat.le_of_ble_eq_true rfl⟩ dX11_alone_40 (fun r10 u10 hr10 h10 => ?_)
        obtain rfl := h10
        exact x_iret (S := xS) (post := fun r _ => (2 ≤ x1 ∧ x1 ≤ 6 ∧ (x2 = 2 ∧ r = 10 ∨ x2 = 1 ∧ r = 0 ∨ x2 = 0 ∧ r = iShl 1 x1)) ∨ (¬ (2 ≤ x1 ∧ x1 ≤ 6 ∧ 0 ≤ x2 ∧ x2 ≤ 2) ∧ r = -1)) (w1 := fun u : xS => XW cy ad u.1 u.2.1 u.2.2) (a := 10) C hr rfl dX11_alone_43 (by decide) (zV3, J, Rr) rfl (by omega)
    · refine x_if_ne_f C.1 (tgt := 21) dX11_alone_16 (by decide) (by decide) (by decide) ?_
      refine x_iconst C.1 (n := -1) dX11_alone_19 ?_
      exact x_iret (S := xS) (post := fun r _ => (2 ≤ x1 ∧ x1 ≤ 6 ∧ (x2 = 2 ∧ r = 10 ∨ x2 = 1 ∧ r = 0 ∨ x2 = 0 ∧ r = iShl 1 x1)) ∨ (¬ (2 ≤ x1 ∧ x1 ≤ 6 ∧ 0 ≤ x2 ∧ x2 ≤ 2) ∧ r = -1)) (w1 := fun u : xS => XW cy ad u.1 u.2.1 u.2.2) (a := (-1)) C hr rfl dX11_alone_20 (by decide) (V, J, Rr) rfl (by omega)
  · refine x_if_eq_t C.1 (tgt := 19) dX11_alone_7 (by decide) (by decide) (by decide) ?_
    refine x_iconst C.1 (n := -1) dX11_alone_19 ?_
    exact x_iret (S := xS) (post := fun r _ => (2 ≤ x1 ∧ x1 ≤ 6 ∧ (x2 = 2 ∧ r = 10 ∨ x2 = 1 ∧ r = 0 ∨ x2 = 0 ∧ r = iShl 1 x1)) ∨ (¬ (2 ≤ x1 ∧ x1 ≤ 6 ∧ 0 ≤ x2 ∧ x2 ≤ 2) ∧ r = -1)) (w1 := fun u : xS => XW cy ad u.1 u.2.1 u.2.2) (a := (-1)) C hr rfl dX11_alone_20 (by decide) (V, J, Rr) rfl (by omega)
