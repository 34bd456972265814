def tellV (V : Nat → Nat → Int) (q : Nat) (x1 x2 x3 : Int) : Nat → Nat → Int := flV (up2 (up2 (up2 (up2 (up2 (up2 (up2 (up2 V q 0 1) q 1 x1) q 2 x2) q 3 x3) q 4 0) q 5 0) q 6 0) q 7 (-1)) (q + 1) 7 x2
theorem tellV_VR {V : Nat → Nat → Int} {q : Nat} {x1 x2 x3 : Int} (h : VR V) (h1 : R32 x1) (h2 : R32 x2) (h3 : R32 x3) : VR (tellV V q x1 x2 x3) := flV_VR (VR_up (VR_up (VR_up (VR_up (VR_up (VR_up (VR_up (VR_up h (by decide)) h1) h2) h3) (by decide)) (by decide)) (by decide)) (by decide)) h2
theorem hd_yJ7_fill_53178 : yJ7_fill_53178.cls ≠ "java/lang/invoke/MethodHandle" ∧ yJ7_fill_53178.cls ≠ "java/lang/invoke/VarHandle" ∧ (parseMethodDescriptor yJ7_fill_53178.desc).map (fun d => d.parameters.length) = some 2 := by decide +kernel
theorem dX5_tell_0 : decode cX5_tell 0 = .ok (.aload_n 0, 1) := by decide +kernel
theorem dX5_tell_1 : decode cX5_tell 1 = .ok (.iconst 1, 1) := by decide +kernel
theorem dX5_tell_2 : decode cX5_tell 2 = .ok (.putfield 19, 3) := by decide +kernel
theorem dX5_tell_5 : decode cX5_tell 5 = .ok (.aload_n 0, 1) := by decide +kernel
theorem dX5_tell_6 : decode cX5_tell 6 = .ok (.iload_n 1, 1) := by decide +kernel
theorem dX5_tell_7 : decode cX5_tell 7 = .ok (.putfield 23, 3) := by decide +kernel
theorem dX5_tell_10 : decode cX5_tell 10 = .ok (.aload_n 0, 1) := by decide +kernel
theorem dX5_tell_11 : decode cX5_tell 11 = .ok (.iload_n 2, 1) := by decide +kernel
theorem dX5_tell_12 : decode cX5_tell 12 = .ok (.putfield 26, 3) := by decide +kernel
theorem dX5_tell_15 : decode cX5_tell 15 = .ok (.aload_n 0, 1) := by decide +kernel
theorem dX5_tell_16 : decode cX5_tell 16 = .ok (.iload_n 3, 1) := by decide +kernel
theorem dX5_tell_17 : decode cX5_tell 17 = .ok (.putfield 29, 3) := by decide +kernel
theorem dX5_tell_20 : decode cX5_tell 20 = .ok (.aload_n 0, 1) := by decide +kernel
theorem dX5_tell_21 : decode cX5_tell 21 = .ok (.iconst 0, 1) := by decide +kernel
theorem dX5_tell_22 : decode cX5_tell 22 = .ok (.putfield 32, 3) := by decide +kernel
theorem dX5_tell_25 : decode cX5_tell 25 = .ok (.aload_n 0, 1) := by decide +kernel
theorem dX5_tell_26 : decode cX5_tell 26 = .ok (.iconst 0, 1) := by decide +kernel
theorem dX5_tell_27 : decode cX5_tell 27 = .ok (.putfield 35, 3) := by decide +kernel
theorem dX5_tell_30 : decode cX5_tell 30 = .ok (.aload_n 0, 1) := by decide +kernel
theorem dX5_tell_31 : decode cX5_tell 31 = .ok (.iconst 0, 1) := by decide +kernel
theorem dX5_tell_32 : decode cX5_tell 32 = .ok (.putfield 38, 3) := by decide +kernel
theorem dX5_tell_35 : decode cX5_tell 35 = .ok (.aload_n 0, 1) := by decide +kernel
theorem dX5_tell_36 : decode cX5_tell 36 = .ok (.iconst (-1), 1) := by decide +kernel
theorem dX5_tell_37 : decode cX5_tell 37 = .ok (.putfield 9, 3) := by decide +kernel
theorem dX5_tell_40 : decode cX5_tell 40 = .ok (.aload_n 0, 1) := by decide +kernel
theorem dX5_tell_41 : decode cX5_tell 41 = .ok (.getfield 15, 3) := by decide +kernel
theorem dX5_tell_44 : decode cX5_tell 44 = .ok (.aload_n 0, 1) := by decide +kernel
theorem dX5_tell_45 : decode cX5_tell 45 = .ok (.getfield 26, 3) := by decide +kernel
theorem dX5_tell_48 : decode cX5_tell 48 = .ok (.invokestatic 41, 3) := by decide +kernel
theorem dX5_tell_51 : decode cX5_tell 51 = .ok (.return_, 1) := by decide +kernel
set_option maxHeartbeats 4000000 in
set_option maxRecDepth 100000 in
theorem c_tell (l : Launch) (D : va_G) (cy : Nat → ClassId) (ad : Nat → Nat) (V J : Nat → Nat → Int) (Rr : Nat → Nat → Nat) (hV : VR V) (hJ : VJ J) (ca : Nat) (hpl : isPl ca) (x1 x2 x3 : Int) (hx1 : R32 x1) (hx2 : R32 x2) (hx3 : R32 x3) : xMv l D (xTY cy) yX5_tell cX5_tell 4 none 1 23 0 0 [.ref (ad ca), vI x1, vI x2, vI x3] (XW cy ad V J Rr) (fun u : xS => XW cy ad u.1 u.2.1 u.2.2) (fun u => u = (tellV V ca x1 x2 x3, J, Rr)) := by
  refine xMv.mk (lv0 := [(0, .ref (ad ca)), (1, vI x1), (2, vI x2), (3, vI x3)]) (by decide) rfl (Nat.le_of_ble_eq_true rfl) (fun p e s m below meth c A C hr hnm hAe => ?_)
  have C : xC2 p s m _ meth c D A s.heap 4 cX5_tell RX5 (xTY cy) := C
  refine x_aload_n C.1 dX5_tell_0 0 rfl ?_
  refine x_iconst C.1 (n := 1) dX5_tell_1 ?_
  refine x_putI C (N := 129) (i := ca) (Nat.lt_of_succ_lt hpl.1) hpl.2.1 vc_X5 wx_X5 0 (by decide) wf_X5_19 tyX5 tyX5_ok nmX5 rfl (tyX5_ok 0 (by decide)) rfl dX5_tell_2 (by decide) (by decide) ?_
  refine x_aload_n C.1 dX5_tell_5 0 rfl ?_
  refine x_iload_n C.1 dX5_tell_6 1 rfl ?_
  refine x_putI C (N := 129) (i := ca) (Nat.lt_of_succ_lt hpl.1) hpl.2.1 vc_X5 wx_X5 1 (by decide) wf_X5_23 tyX5 tyX5_ok nmX5 rfl (tyX5_ok 1 (by decide)) rfl dX5_tell_7 rfl rfl ?_
  refine x_aload_n C.1 dX5_tell_10 0 rfl ?_
  refine x_iload_n C.1 dX5_tell_11 2 rfl ?_
  refine x_putI C (N := 129) (i := ca) (Nat.lt_of_succ_lt hpl.1) hpl.2.1 vc_X5 wx_X5 2 (by decide) wf_X5_26 tyX5 tyX5_ok nmX5 rfl (tyX5_ok 2 (by decide)) rfl dX5_tell_12 rfl rfl ?_
  refine x_aload_n C.1 dX5_tell_15 0 rfl ?_
  refine x_iload_n C.1 dX5_tell_16 3 rfl ?_
  refine x_putI C (N := 129) (i := ca) (Nat.lt_of_succ_lt hpl.1) hpl.2.1 vc_X5 wx_X5 3 (by decide) wf_X5_29 tyX5 tyX5_ok nmX5 rfl (tyX5_ok 3 (by decide)) rfl dX5_tell_17 rfl rfl ?_
  refine x_aload_n C.1 dX5_tell_20 0 rfl ?_
  refine x_iconst C.1 (n := 0) dX5_tell_21 ?_
  refine x_putI C (N := 129) (i := ca) (Nat.lt_of_succ_lt hpl.1) hpl.2.1 vc_X5 wx_X5 4 (by decide) wf_X5_32 tyX5 tyX5_ok nmX5 rfl (tyX5_ok 4 (by decide)) rfl dX5_tell_22 rfl rfl ?_
  refine x_aload_n C.1 dX5_tell_25 0 rfl ?_
  refine x_iconst C.1 (n := 0) dX5_tell_26 ?_
  refine x_putI C (N := 129) (i := ca) (Nat.lt_of_succ_lt hpl.1) hpl.2.1 vc_X5 wx_X5 5 (by decide) wf_X5_35 tyX5 tyX5_ok nmX5 rfl (tyX5_ok 5 (by decide)) rfl dX5_tell_27 rfl rfl ?_
  refine x_aload_n C.1 dX5_tell_30 0 rfl ?_
  refine x_iconst C.1 (n := 0) dX5_tell_31 ?_
  refine x_putI C (N := 129) (i := ca) (Nat.lt_of_succ_lt hpl.1) hpl.2.1 vc_X5 wx_X5 6 (by decide) wf_X5_38 tyX5 tyX5_ok nmX5 rfl (tyX5_ok 6 (by decide)) rfl dX5_tell_32 (by decide) (by decide) ?_
  refine x_aload_n C.1 dX5_tell_35 0 rfl ?_
  refine x_iconst C.1 (n := -1) dX5_tell_36 ?_
  refine x_putI C (N := 129) (i := ca) (Nat.lt_of_succ_lt hpl.1) hpl.2.1 vc_X5 wx_X5 7 (by decide) wf_X5_9 tyX5 tyX5_ok nmX5 rfl (tyX5_ok 7 (by decide)) rfl dX5_tell_37 rfl rfl ?_
  refine x_aload_n C.1 dX5_tell_40 0 rfl ?_
  refine x_getA C (N := 129) (i := ca) (Nat.lt_of_succ_lt hpl.1) hpl.2.1 vc_X5 wx_X5 8 (by decide) wf_X5_15 (a := ca + 1) rfl dX5_tell_41 ?_
  refine x_aload_n C.1 dX5_tell_44 0 rfl ?_
  refine x_getI C (N := 129) (i := ca) (Nat.lt_of_succ_lt hpl.1) hpl.2.1 vc_X5 wx_X5 2 (by decide) wf_X5_26 rfl dX5_tell_45 (a := x2) ((up2_n _ _ (Or.inr (by decide))).trans ((up2_n _ _ (Or.inr (by decide))).trans ((up2_n _ _ (Or.inr (by decide))).trans ((up2_n _ _ (Or.inr (by decide))).trans ((up2_n _ _ (Or.inr (by decide))).trans (up2_s _ _ _ _)))))) ?_
  refine x_callSv C (As := [.ref (ad (ca + 1)), vI x2]) (rest := []) (c_fill l D cy ad (up2 (up2 (up2 (up2 (up2 (up2 (up2 (up2 V ca 0 1) ca 1 x1) ca 2 x2) ca 3 x3) ca 4 0) ca 5 0) ca 6 0) ca 7 (-1)) J Rr (VR_up (VR_up (VR_up (VR_up (VR_up (VR_up (VR_up (VR_up hV (by decide)) hx1) hx2) hx3) (by decide)) (by decide)) (by decide)) (by decide)) hJ (ca + 1) 7 0 0 x2 hpl.1 hpl.2.2 (by decide) hx2) (l1 := []) (l2 := []) (List.append_nil _).symm (w2 := fun u : xS => XW cy ad u.1 u.2.1 u.2.2) (fun _ => List.append_nil _) rfl wm_yJ7_fill_53178 wn_J7 wl_X5_41 wi_yJ7_fill_53178 hd_yJ7_fill_53178 rfl ⟨Nat.le_of_ble_eq_true rfl, Nat.le_of_ble_eq_true rfl⟩ (Nat.le_of_ble_eq_true rfl) ⟨Nat.le_of_ble_eq_true rfl, Nat.le_of_ble_eq_true rfl⟩ dX5_tell_48 (fun u1 h1 => ?_)
  obtain rfl := h1
  try dsimp only
  exact x_vret (S := xS) (post := fun u => u = (tellV V ca x1 x2 x3, J, Rr)) (w1 := fun u : xS => XW cy ad u.1 u.2.1 u.2.2) C hr rfl dX5_tell_51 ((flV (up2 (up2 (up2 (up2 (up2 (up2 (up2 (up2 V ca 0 1) ca 1 x1) ca 2 x2) ca 3 x3) ca 4 0) ca 5 0) ca 6 0) ca 7 (-1)) (ca + 1) 7 x2), J, Rr) rfl rfl
theorem hd_yX5_tell : yX5_tell.cls ≠ "java/lang/invoke/MethodHandle" ∧ yX5_tell.cls ≠ "java/lang/invoke/VarHandle" ∧ (parseMethodDescriptor yX5_tell.desc).map (fun d => d.parameters.length) = some 3 := by decide +kernel
theorem dX11_plant_0 : decode cX11_plant 0 = .ok (.iload_n 1, 1) := by decide +kernel
theorem dX11_plant_1 : decode cX11_plant 1 = .ok (.iconst 4, 1) := by decide +kernel
theorem dX11_plant_2 : decode cX11_plant 2 = .ok (.invokestatic 70, 3) := by decide +kernel
theorem dX11_plant_5 : decode cX11_plant 5 = .ok (.ifCond .eq 13, 3) := by decide +kernel
theorem dX11_plant_8 : decode cX11_plant 8 = .ok (.iload_n 2, 1) := by decide +kernel
theorem dX11_plant_9 : decode cX11_plant 9 = .ok (.iconst 4, 1) := by decide +kernel
theorem dX11_plant_10 : decode cX11_plant 10 = .ok (.bipush 24, 2) := by decide +kernel
theorem dX11_plant_12 : decode cX11_plant 12 = .ok (.invokestatic 74, 3) := by decide +kernel
theorem dX11_plant_15 : decode cX11_plant 15 = .ok (.ifCond .ne 5, 3) := by decide +kernel
theorem dX11_plant_18 : decode cX11_plant 18 = .ok (.iconst 0, 1) := by decide +kernel
theorem dX11_plant_19 : decode cX11_plant 19 = .ok (.ireturn, 1) := by decide +kernel
theorem dX11_plant_20 : decode cX11_plant 20 = .ok (.iload_n 3, 1) := by decide +kernel
theorem dX11_plant_21 : decode cX11_plant 21 = .ok (.iconst 0, 1) := by decide +kernel
theorem dX11_plant_22 : decode cX11_plant 22 = .ok (.iload_n 2, 1) := by decide +kernel
theorem dX11_plant_23 : decode cX11_plant 23 = .ok (.invokestatic 74, 3) := by decide +kernel
theorem dX11_plant_26 : decode cX11_plant 26 = .ok (.ifCond .eq 14, 3) := by decide +kernel
theorem dX11_plant_29 : decode cX11_plant 29 = .ok (.iload 4, 2) := by decide +kernel
theorem dX11_plant_31 : decode cX11_plant 31 = .ok (.iconst 1, 1) := by decide +kernel
theorem dX11_plant_32 : decode cX11_plant 32 = .ok (.bipush 9, 2) := by decide +kernel
theorem dX11_plant_34 : decode cX11_plant 34 = .ok (.invokestatic 74, 3) := by decide +kernel
theorem dX11_plant_37 : decode cX11_plant 37 = .ok (.ifCond .ne 5, 3) := by decide +kernel
theorem dX11_plant_40 : decode cX11_plant 40 = .ok (.iconst 0, 1) := by decide +kernel
theorem dX11_plant_41 : decode cX11_plant 41 = .ok (.ireturn, 1) := by decide +kernel
theorem dX11_plant_42 : decode cX11_plant 42 = .ok (.aload_n 0, 1) := by decide +kernel
theorem dX11_plant_43 : decode cX11_plant 43 = .ok (.getfield 10, 3) := by decide +kernel
theorem dX11_plant_46 : decode cX11_plant 46 = .ok (.getfield 78, 3) := by decide +kernel
theorem dX11_plant_49 : decode cX11_plant 49 = .ok (.iload_n 1, 1) := by decide +kernel
theorem dX11_plant_50 : decode cX11_plant 50 = .ok (.aaload, 1) := by decide +kernel
theorem dX11_plant_51 : decode cX11_plant 51 = .ok (.iload_n 2, 1) := by decide +kernel
theorem dX11_plant_52 : decode cX11_plant 52 = .ok (.iload_n 3, 1) := by decide +kernel
theorem dX11_plant_53 : decode cX11_plant 53 = .ok (.iload 4, 2) := by decide +kernel
theorem dX11_plant_55 : decode cX11_plant 55 = .ok (.invokevirtual 82, 3) := by decide +kernel
theorem dX11_plant_58 : decode cX11_plant 58 = .ok (.iconst 1, 1) := by decide +kernel
theorem dX11_plant_59 : decode cX11_plant 59 = .ok (.ireturn, 1) := by decide +kernel
set_option maxHeartbeats 4000000 in
set_option maxRecDepth 100000 in
theorem f_plant (l : Launch) (D : va_G) (cy : Nat → ClassId) (ad : Nat → Nat) (V J : Nat → Nat → Int) (Rr : Nat → Nat → Nat) (hV : VR V) (hJ : VJ J) (x1 x2 x3 x4 : Int) (hx1 : R32 x1) (hx2 : R32 x2) (hx3 : R32 x3) (hx4 : R32 x4) (hnp : NPl V 1) (hne : NPe V 1) (htl : V 58 1 = 0) : xMi l D (xTY cy) yX11_plant cX11_plant 5 (some .boolean) 2 46 0 0 [.ref (ad 0), vI x1, vI x2, vI x3, vI x4] (XW cy ad V J Rr) (fun u : xS => XW cy ad u.1 u.2.1 u.2.2) (fun r _ => (r = 1 ∧ 0 ≤ x1 ∧ x1 < 4 ∧ 4 ≤ x2 ∧ x2 ≤ 24 ∧ 0 ≤ x3 ∧ x3 ≤ x2 ∧ 1 ≤ x4 ∧ x4 ≤ 9) ∨ (r = 0 ∧ ¬ (0 ≤ x1 ∧ x1 < 4 ∧ 4 ≤ x2 ∧ x2 ≤ 24 ∧ 0 ≤ x3 ∧ x3 ≤ x2 ∧ 1 ≤ x4 ∧ x4 ≤ 9))) := by
  refine xMi.mk (lv0 := [(0, .ref (ad 0)), (1, vI x1), (2, vI x2), (3, vI x3), (4, vI x4)]) (by decide) rfl (Nat.le_of_ble_eq_true rfl) (fun p e s m below meth c A C hr hnm hAe => ?_)
  have C : xC2 p s m _ meth c D A s.heap 5 cX11_plant RX11 (xTY cy) := C
  refine x_iload_n C.1 dX11_plant_0 1 rfl ?_
  refine x_iconst C.1 (n := 4) dX11_plant_1 ?_
  refine x_callSi C (As := [vI x1, vI 4]) (rest := []) (c_isPlace l D cy x1 4 hx1 (by decide)) (l1 := []) (l2 := _) rfl (w2 := fun _ => _) (fun _ => rfl) rfl wm_yX11_isPlace wn_X11 wl_X11_70 wi_yX11_isPlace hd_yX11_isPlace rfl ⟨Nat.le_of_ble_eq_true rfl, Nat.le_of_ble_eq_true rfl⟩ (Nat.le_of_ble_eq_true rfl) ⟨Nat.le_of_ble_eq_true rfl, Nat.le_of_ble_eq_true rfl⟩ dX11_plant_2 (fun r1 u1 hr1 h1 => ?_)
  rcases h1 with ⟨rfl, t1, t1b⟩ | ⟨rfl, t1⟩
  · refine x_if_eq_f C.1 (tgt := 18) dX11_plant_5 (by decide) (by decide) (by decide) ?_
    refine x_iload_n C.1 dX11_plant_8 2 rfl ?_
    refine x_iconst C.1 (n := 4) dX11_plant_9 ?_
    refine x_bipush C.1 (n := 24) dX11_plant_10 ?_
    refine x_callSi C (As := [vI x2, vI 4, vI 24]) (rest := []) (c_isWithin l D cy x2 4 24 hx2 (by decide) (by decide)) (l1 := []) (l2 := _) rfl (w2 := fun _ => _) (fun _ => rfl) rfl wm_yX11_isWithin wn_X11 wl_X11_74 wi_yX11_isWithin hd_yX11_isWithin rfl ⟨Nat.le_of_ble_eq_true rfl, Nat.le_of_ble_eq_true rfl⟩ (Nat.le_of_ble_eq_true rfl) ⟨Nat.le_of_ble_eq_true rfl, Nat.le_of_ble_eq_true rfl⟩ dX11_plant_12 (fun r2 u2 hr2 h2 => ?_)
    rcases h2 with ⟨rfl, t2, t2b⟩ | ⟨rfl, t2⟩
    · refine x_if_ne_t C.1 (tgt := 20) dX11_plant_15 (by decide) (by decide) (by decide) ?_
      refine x_iload_n C.1 dX11_plant_20 3 rfl ?_
      refine x_iconst C.1 (n := 0) dX11_plant_21 ?_
      refine x_iload_n C.1 dX11_plant_22 2 rfl ?_
      refine x_callSi C (As := [vI x3, vI 0, vI x2]) (rest := []) (c_isWithin l D cy x3 0 x2 hx3 (by decide) hx2) (l1 := []) (l2 := _) rfl (w2 := fun _ => _) (fun _ => rfl) rfl wm_yX11_isWithin wn_X11 wl_X11_74 wi_yX11_isWithin hd_yX11_isWithin rfl ⟨Nat.le_of_ble_eq_true rfl, Nat.le_of_ble_eq_true rfl⟩ (Nat.le_of_ble_eq_true rfl) ⟨Nat.le_of_ble_eq_true rfl, Nat.le_of_ble_eq_true rfl⟩ dX11_plant_23 (fun r3 u3 hr3 h3 => ?_)
      rcases h3 with ⟨rfl, t3, t3b⟩ | ⟨rfl, t3⟩
      · refine x_if_eq_f C.1 (tgt := 40) dX11_plant_26 (by decide) (by decide) (by decide) ?_
        refine x_iload C.1 dX11_plant_29 4 rfl ?_
        refine x_iconst C.1 (n := 1) dX11_plant_31 ?_
        refine x_bipush C.1 (n := 9) dX11_plant_32 ?_
        refine x_callSi C (As := [vI x4, vI 1, vI 9]) (rest := []) (c_isWithin l D cy x4 1 9 hx4 (by decide) (by decide)) (l1 := []) (l2 := _) rfl (w2 := fun _ => _) (fun _ => rfl) rfl wm_yX11_isWithin wn_X11 wl_X11_74 wi_yX11_isWithin hd_yX11_isWithin rfl ⟨Nat.le_of_ble_eq_true rfl, Nat.le_of_ble_eq_true rfl⟩ (Nat.le_of_ble_eq_true rfl) ⟨Nat.le_of_ble_eq_true rfl, Nat.le_of_ble_eq_true rfl⟩ dX11_plant_34 (fun r4 u4 hr4 h4 => ?_)
        rcases h4 with ⟨rfl, t4, t4b⟩ | ⟨rfl, t4⟩
        · refine x_if_ne_t C.1 (tgt := 42) dX11_plant_37 (by decide) (by decide) (by decide) ?_
          refine x_aload_n C.1 dX11_plant_42 0 rfl ?_
          refine x_getA C (N := 129) (i := 0) (by decide) rfl vc_X11 wx_X11 0 (by decide) wf_X11_10 (a := 1) rfl dX11_plant_43 ?_
          refine x_getA C (N := 129) (i := 1) (by omega) (xd_L (Or.inl rfl)) vc_X3 wx_X3 0 (by decide) wf_X11_78 (a := 2) rfl dX11_plant_46 ?_
          refine x_iload_n C.1 dX11_plant_49 1 rfl ?_
          refine x_aldS C (N := 129) (i := 2) (q := x1) (t := 4) rfl (by omega) (xd_La (Or.inl rfl)) (by omega) (by decide) dX11_plant_50 (a := 1 + 3 + 2 * x1.toNat) rfl ?_
          refine x_iload_n C.1 dX11_plant_51 2 rfl ?_
          refine x_iload_n C.1 dX11_plant_52 3 rfl ?_
          refine x_iload C.1 dX11_plant_53 4 rfl ?_
          refine x_callVv C (As := [vI x2, vI x3, vI x4]) (rest := []) (1 + 3 + 2 * x1.toNat) (xw_at (N := 129) (i := 1 + 3 + 2 * x1.toNat) (Nat.lt_of_succ_lt (isPl_L (Or.inl rfl) (l := x1.toNat) (by omega)).1) (isPl_L (Or.inl rfl) (l := x1.toNat) (by omega)).2.1) vc_X5 (c_tell l D cy ad V J Rr hV hJ (1 + 3 + 2 * x1.toNat) (isPl_L (Or.inl rfl) (l := x1.toNat) (by omega)) x2 x3 x4 hx2 hx3 hx4) (l1 := []) (l2 := []) (List.append_nil _).symm (w2 := fun u : xS => XW cy ad u.1 u.2.1 u.2.2) (fun _ => List.append_nil _) rfl wm_yX5_tell wn_X5 wl_X11_82 wi_yX5_tell we_yX5_tell hd_yX5_tell rfl ⟨Nat.le_of_ble_eq_true rfl, Nat.le_of_ble_eq_true rfl⟩ (Nat.le_of_ble_eq_true rfl) ⟨Nat.le_of_ble_eq_true rfl, Nat.le_of_ble_eq_true rfl⟩ dX11_plant_55 (fun u5 h5 => ?_)
          obtain rfl := h5
          try dsimp only
          refine x_iconst C.1 (n := 1) dX11_plant_58 ?_
          exact x_zret (S := xS) (post := fun r _ => (r = 1 ∧ 0 ≤ x1 ∧ x1 < 4 ∧ 4 ≤ x2 ∧ x2 ≤ 24 ∧ 0 ≤ x3 ∧ x3 ≤ x2 ∧ 1 ≤ x4 ∧ x4 ≤ 9) ∨ (r = 0 ∧ ¬ (0 ≤ x1 ∧ x1 < 4 ∧ 4 ≤ x2 ∧ x2 ≤ 24 ∧ 0 ≤ x3 ∧ x3 ≤ x2 ∧ 1 ≤ x4 ∧ x4 ≤ 9))) (w1 := fun u : xS => XW cy ad u.1 u.2.1 u.2.2) (a := 1) C hr rfl dX11_plant_59 (by decide) ((tellV V (1 + 3 + 2 * x1.toNat) x2 x3 x4), J, Rr) rfl (by omega)
        · refine x_if_ne_f C.1 (tgt := 42) dX11_plant_37 (by decide) (by decide) (by decide) ?_
          refine x_iconst C.1 (n := 0) dX11_plant_40 ?_
          exact x_zret (S := xS) (post := fun r _ => (r = 1 ∧ 0 ≤ x1 ∧ x1 < 4 ∧ 4 ≤ x2 ∧ x2 ≤ 24 ∧ 0 ≤ x3 ∧ x3 ≤ x2 ∧ 1 ≤ x4 ∧ x4 ≤ 9) ∨ (r = 0 ∧ ¬ (0 ≤ x1 ∧ x1 < 4 ∧ 4 ≤ x2 ∧ x2 ≤ 24 ∧ 0 ≤ x3 ∧ x3 ≤ x2 ∧ 1 ≤ x4 ∧ x4 ≤ 9))) (w1 := fun u : xS => XW cy ad u.1 u.2.1 u.2.2) (a := 0) C hr rfl dX11_plant_41 (by decide) (V, J, Rr) rfl (by omega)
      · refine x_if_eq_t C.1 (tgt := 40) dX11_plant_26 (by decide) (by decide) (by decide) ?_
        refine x_iconst C.1 (n := 0) dX11_plant_40 ?_
        exact x_zret (S := xS) (post := fun r _ => (r = 1 ∧ 0 ≤ x1 ∧ x1 < 4 ∧ 4 ≤ x2 ∧ x2 ≤ 24 ∧ 0 ≤ x3 ∧ x3 ≤ x2 ∧ 1 ≤ x4 ∧ x4 ≤ 9) ∨ (r = 0 ∧ ¬ (0 ≤ x1 ∧ x1 < 4 ∧ 4 ≤ x2 ∧ x2 ≤ 24 ∧ 0 ≤ x3 ∧ x3 ≤ x2 ∧ 1 ≤ x4 ∧ x4 ≤ 9))) (w1 := fun u : xS => XW cy ad u.1 u.2.1 u.2.2) (a := 0) C hr rfl dX11_plant_41 (by decide) (V, J, Rr) rfl (by omega)
    · refine x_if_ne_f C.1 (tgt := 20) dX11_plant_15 (by decide) (by decide) (by decide) ?_
      refine x_iconst C.1 (n := 0) dX11_plant_18 ?_
      exact x_zret (S := xS) (post := fun r _ => (r = 1 ∧ 0 ≤ x1 ∧ x1 < 4 ∧ 4 ≤ x2 ∧ x2 ≤ 24 ∧ 0 ≤ x3 ∧ x3 ≤ x2 ∧ 1 ≤ x4 ∧ x4 ≤ 9) ∨ (r = 0 ∧ ¬ (0 ≤ x1 ∧ x1 < 4 ∧ 4 ≤ x2 ∧ x2 ≤ 24 ∧ 0 ≤ x3 ∧ x3 ≤ x2 ∧ 1 ≤ x4 ∧ x4 ≤ 9))) (w1 := fun u : xS => XW cy ad u.1 u.2.1 u.2.2) (a := 0) C hr rfl dX11_plant_19 (by decide) (V, J, Rr) rfl (by omega)
  · refine x_if_eq_t C.1 (tgt := 18) dX11_plant_5 (by decide) (by decide) (by decide) ?_
    refine x_iconst C.1 (n := 0) dX11_plant_18 ?_
    exact x_zret (S := xS) (post := fun r _ => (r = 1 ∧ 0 ≤ x1 ∧ x1 < 4 ∧ 4 ≤ x2 ∧ x2 ≤ 24 ∧ 0 ≤ x3 ∧ x3 ≤ x2 ∧ 1 ≤ x4 ∧ x4 ≤ 9) ∨ (r = 0 ∧ ¬ (0 ≤ x1 ∧ x1 < 4 ∧ 4 ≤ x2 ∧ x2 ≤ 24 ∧ 0 ≤ x3 ∧ x3 ≤ x2 ∧ 1 ≤ x4 ∧ x4 ≤ 9))) (w1 := fun u : xS => XW cy ad u.1 u.2.1 u.2.2) (a := 0) C hr rfl dX11_plant_19 (by decide) (V, J, Rr) rfl (by omega)
theorem dX3_tellPerson_0 : decode cX3_tellPerson 0 = .ok (.aload_n 0, 1) := by decide +kernel
theorem dX3_tellPerson_1 : decode cX3_tellPerson 1 = .ok (.getfield 19, 3) := by decide +kernel
theorem dX3_tellPerson_4 : decode cX3_tellPerson 4 = .ok (.iload_n 1, 1) := by decide +kernel
theorem dX3_tellPerson_5 : decode cX3_tellPerson 5 = .ok (.aaload, 1) := by decide +kernel
theorem dX3_tellPerson_6 : decode cX3_tellPerson 6 = .ok (.astore 4, 2) := by decide +kernel
theorem dX3_tellPerson_8 : decode cX3_tellPerson 8 = .ok (.aload_n 0, 1) := by decide +kernel
theorem dX3_tellPerson_9 : decode cX3_tellPerson 9 = .ok (.dup, 1) := by decide +kernel
theorem dX3_tellPerson_10 : decode cX3_tellPerson 10 = .ok (.getfield 36, 3) := by decide +kernel
theorem dX3_tellPerson_13 : decode cX3_tellPerson 13 = .ok (.aload 4, 2) := by decide +kernel
theorem dX3_tellPerson_15 : decode cX3_tellPerson 15 = .ok (.getfield 42, 3) := by decide +kernel
theorem dX3_tellPerson_18 : decode cX3_tellPerson 18 = .ok (.ifCond .eq 7, 3) := by decide +kernel
theorem dX3_tellPerson_21 : decode cX3_tellPerson 21 = .ok (.iconst 0, 1) := by decide +kernel
theorem dX3_tellPerson_22 : decode cX3_tellPerson 22 = .ok (.goto 4, 3) := by decide +kernel
theorem dX3_tellPerson_25 : decode cX3_tellPerson 25 = .ok (.iconst 1, 1) := by decide +kernel
theorem dX3_tellPerson_26 : decode cX3_tellPerson 26 = .ok (.iadd, 1) := by decide +kernel
theorem dX3_tellPerson_27 : decode cX3_tellPerson 27 = .ok (.putfield 36, 3) := by decide +kernel
theorem dX3_tellPerson_30 : decode cX3_tellPerson 30 = .ok (.aload 4, 2) := by decide +kernel
theorem dX3_tellPerson_32 : decode cX3_tellPerson 32 = .ok (.iconst 1, 1) := by decide +kernel
theorem dX3_tellPerson_33 : decode cX3_tellPerson 33 = .ok (.putfield 42, 3) := by decide +kernel
theorem dX3_tellPerson_36 : decode cX3_tellPerson 36 = .ok (.aload 4, 2) := by decide +kernel
theorem dX3_tellPerson_38 : decode cX3_tellPerson 38 = .ok (.iload_n 2, 1) := by decide +kernel
theorem dX3_tellPerson_39 : decode cX3_tellPerson 39 = .ok (.putfield 46, 3) := by decide +kernel
theorem dX3_tellPerson_42 : decode cX3_tellPerson 42 = .ok (.aload 4, 2) := by decide +kernel
theorem dX3_tellPerson_44 : decode cX3_tellPerson 44 = .ok (.iload_n 3, 1) := by decide +kernel
theorem dX3_tellPerson_45 : decode cX3_tellPerson 45 = .ok (.putfield 49, 3) := by decide +kernel
theorem dX3_tellPerson_48 : decode cX3_tellPerson 48 = .ok (.aload 4, 2) := by decide +kernel
theorem dX3_tellPerson_50 : decode cX3_tellPerson 50 = .ok (.iconst 0, 1) := by decide +kernel
theorem dX3_tellPerson_51 : decode cX3_tellPerson 51 = .ok (.putfield 52, 3) := by decide +kernel
theorem dX3_tellPerson_54 : decode cX3_tellPerson 54 = .ok (.return_, 1) := by decide +kernel
set_option maxHeartbeats 4000000 in
set_option maxRecDepth 100000 in
theorem f_tellPerson (l : Launch) (D : va_G) (cy : Nat → ClassId) (ad : Nat → Nat) (V J : Nat → Nat → Int) (Rr : Nat → Nat → Nat) (hV : VR V) (hJ : VJ J) (b : Nat) (hb : isLa b) (x1 x2 x3 : Int) (hx1 : R32 x1) (hx2 : R32 x2) (hx3 : R32 x3) (hr1 : 0 ≤ x1 ∧ x1 < 8) (hs : 0 ≤ V b 2 ∧ V b 2 ≤ 100) : xMv l D (xTY cy) yX3_tellPerson cX3_tellPerson 5 none 0 0 0 0 [.ref (ad b), vI x1, vI x2, vI x3] (XW cy ad V J Rr) (fun u : xS => XW cy ad u.1 u.2.1 u.2.2) (fun u => True) := by
  refine xMv.mk (lv0 := [(0, .ref (ad b)), (1, vI x1), (2, vI x2), (3, vI x3)]) (by decide) rfl (Nat.le_of_ble_eq_true rfl) (fun p e s m below meth c A C hr hnm hAe => ?_)
  have C : xC2 p s m _ meth c D A s.heap 5 cX3_tellPerson RX3 (xTY cy) := C
  refine x_aload_n C.1 dX3_tellPerson_0 0 rfl ?_
  refine x_getA C (N := 129) (i := b) (by omega) (xd_L hb) vc_X3 wx_X3 1 (by decide) wf_X3_19 (a := b + 2) rfl dX3_tellPerson_1 ?_
  refine x_iload_n C.1 dX3_tellPerson_4 1 rfl ?_
  refine x_aldS C (N := 129) (i := b + 2) (q := x1) (t := 5) rfl (by omega) (xd_Lb hb) (by omega) (by decide) dX3_tellPerson_5 (a := b + 11 + 1 * x1.toNat) rfl ?_
  refine x_astore C.1 (lv' := [(4, .ref (ad (b + 11 + 1 * x1.toNat))), (0, .ref (ad b)), (1, vI x1), (2, vI x2), (3, vI x3)]) dX3_tellPerson_6 (by decide) rfl ?_
  refine x_aload_n C.1 dX3_tellPerson_8 1 rfl ?_
  refine x_dup C.1 dX3_tellPerson_9 rfl ?_
  refine x_getI C (N := 129) (i := b) (by omega) (xd_L hb) vc_X3 wx_X3 2 (by decide) wf_X3_36 rfl dX3_tellPerson_10 (a := V b 2) rfl ?_
  refine x_aload C.1 dX3_tellPerson_13 0 rfl ?_
  refine x_getI C (N := 129) (i := b + 11 + 1 * x1.toNat) (isPe_L hb (q := x1.toNat) (by omega)).1 (isPe_L hb (q := x1.toNat) (by omega)).2 vc_X4 wx_X4 0 (by decide) wf_X3_42 rfl dX3_tellPerson_15 (a := V (b + 11 + 1 * x1.toNat) 0) rfl ?_
  refine x_if_eq C.1 (tgt := 25) dX3_tellPerson_18 (by decide) (hV _ _) (fun c18_1 => ?_) (fun c18_1 => ?_)
  · refine x_iconst C.1 (n := 1) dX3_tellPerson_25 ?_
    refine x_iadd C.1 (v := (V b 2) + 1) rfl dX3_tellPerson_26 ?_
    refine x_putI C (N := 129) (i := b) (by omega) (xd_L hb) vc_X3 wx_X3 2 (by decide) wf_X3_36 tyX3 tyX3_ok nmX3 rfl (tyX3_ok 2 (by decide)) rfl dX3_tellPerson_27 rfl rfl ?_
    refine x_aload C.1 dX3_tellPerson_30 0 rfl ?_
    refine x_iconst C.1 (n := 1) dX3_tellPerson_32 ?_
    refine x_putI C (N := 129) (i := b + 11 + 1 * x1.toNat) (isPe_L hb (q := x1.toNat) (by omega)).1 (isPe_L hb (q := x1.toNat) (by omega)).2 vc_X4 wx_X4 0 (by decide) wf_X3_42 tyX4 tyX4_ok nmX4 rfl (tyX4_ok 0 (by decide)) rfl dX3_tellPerson_33 (by decide) (by decide) ?_
    refine x_aload C.1 dX3_tellPerson_36 0 rfl ?_
    refine x_iload_n C.1 dX3_tellPerson_38 3 rfl ?_
    refine x_putI C (N := 129) (i := b + 11 + 1 * x1.toNat) (isPe_L hb (q := x1.toNat) (by omega)).1 (isPe_L hb (q := x1.toNat) (by omega)).2 vc_X4 wx_X4 1 (by decide) wf_X3_46 tyX4 tyX4_ok nmX4 rfl (tyX4_ok 1 (by decide)) rfl dX3_tellPerson_39 rfl rfl ?_
    refine x_aload C.1 dX3_tellPerson_42 0 rfl ?_
    refine x_iload_n C.1 dX3_tellPerson_44 4 rfl ?_
    refine x_putI C (N := 129) (i := b + 11 + 1 * x1.toNat) (isPe_L hb (q := x1.toNat) (by omega)).1 (isPe_L hb (q := x1.toNat) (by omega)).2 vc_X4 wx_X4 2 (by decide) wf_X3_49 tyX4 tyX4_ok nmX4 rfl (tyX4_ok 2 (by decide)) rfl dX3_tellPerson_45 rfl rfl ?_
    refine x_aload C.1 dX3_tellPerson_48 0 rfl ?_
    refine x_iconst C.1 (n := 0) dX3_tellPerson_50 ?_
    refine x_putI C (N := 129) (i := b + 11 + 1 * x1.toNat) (isPe_L hb (q := x1.toNat) (by omega)).1 (isPe_L hb (q := x1.toNat) (by omega)).2 vc_X4 wx_X4 3 (by decide) wf_X3_52 tyX4 tyX4_ok nmX4 rfl (tyX4_ok 3 (by decide)) rfl dX3_tellPerson_51 rfl rfl ?_
    exact x_vret (S := xS) (post := fun u => True) (w1 := fun u : xS => XW cy ad u.1 u.2.1 u.2.2) C hr rfl dX3_tellPerson_54 ((up2 (up2 (up2 (up2 (up2 V b 2 ((V b 2) + 1)) (b + 11 + 1 * x1.toNat) 0 1) (b + 11 + 1 * x1.toNat) 1 x2) (b + 11 + 1 * x1.toNat) 2 x3) (b + 11 + 1 * x1.toNat) 3 0), J, Rr) rfl trivial
  · refine x_iconst C.1 (n := 0) dX3_tellPerson_21 ?_
    refine x_goto C.1 (tgt := 26) dX3_tellPerson_22 (by decide) ?_
    refine x_iadd C.1 (v := (V b 2) + 0) rfl dX3_tellPerson_26 ?_
    refine x_putI C (N := 129) (i := b) (by omega) (xd_L hb) vc_X3 wx_X3 2 (by decide) wf_X3_36 tyX3 tyX3_ok nmX3 rfl (tyX3_ok 2 (by decide)) rfl dX3_tellPerson_27 rfl rfl ?_
    refine x_aload C.1 dX3_tellPerson_30 0 rfl ?_
    refine x_iconst C.1 (n := 1) dX3_tellPerson_32 ?_
    refine x_putI C (N := 129) (i := b + 11 + 1 * x1.toNat) (isPe_L hb (q := x1.toNat) (by omega)).1 (isPe_L hb (q := x1.toNat) (by omega)).2 vc_X4 wx_X4 0 (by decide) wf_X3_42 tyX4 tyX4_ok nmX4 rfl (tyX4_ok 0 (by decide)) rfl dX3_tellPerson_33 (by decide) (by decide) ?_
    refine x_aload C.1 dX3_tellPerson_36 0 rfl ?_
    refine x_iload_n C.1 dX3_tellPerson_38 3 rfl ?_
    refine x_putI C (N := 129) (i := b + 11 + 1 * x1.toNat) (isPe_L hb (q := x1.toNat) (by omega)).1 (isPe_L hb (q := x1.toNat) (by omega)).2 vc_X4 wx_X4 1 (by decide) wf_X3_46 tyX4 tyX4_ok nmX4 rfl (tyX4_ok 1 (by decide)) rfl dX3_tellPerson_39 rfl rfl ?_
    refine x_aload C.1 dX3_tellPerson_42 0 rfl ?_
    refine x_iload_n C.1 dX3_tellPerson_44 4 rfl ?_
    refine x_putI C (N := 129) (i := b + 11 + 1 * x1.toNat) (isPe_L hb (q := x1.toNat) (by omega)).1 (isPe_L hb (q := x1.toNat) (by omega)).2 vc_X4 wx_X4 2 (by decide) wf_X3_49 tyX4 tyX4_ok nmX4 rfl (tyX4_ok 2 (by decide)) rfl dX3_tellPerson_45 rfl rfl ?_
    refine x_aload C.1 dX3_tellPerson_48 0 rfl ?_
    refine x_iconst C.1 (n := 0) dX3_tellPerson_50 ?_
    refine x_putI C (N := 129) (i := b + 11 + 1 * x1.toNat) (isPe_L hb (q := x1.toNat) (by omega)).1 (isPe_L hb (q := x1.toNat) (by omega)).2 vc_X4 wx_X4 3 (by decide) wf_X3_52 tyX4 tyX4_ok nmX4 rfl (tyX4_ok 3 (by decide)) rfl dX3_tellPerson_51 rfl rfl ?_
    exact x_vret (S := xS) (post := fun u => True) (w1 := fun u : xS => XW cy ad u.1 u.2.1 u.2.2) C hr rfl dX3_tellPerson_54 ((up2 (up2 (up2 (up2 (up2 V b 2 ((V b 2) + 0)) (b + 11 + 1 * x1.toNat) 0 1) (b + 11 + 1 * x1.toNat) 1 x2) (b + 11 + 1 * x1.toNat) 2 x3) (b + 11 + 1 * x1.toNat) 3 0), J, Rr) rfl trivial
theorem hd_yX3_tellPerson : yX3_tellPerson.cls ≠ "java/lang/invoke/MethodHandle" ∧ yX3_tellPerson.cls ≠ "java/lang/invoke/VarHandle" ∧ (parseMethodDescriptor yX3_tellPerson.desc).map (fun d => d.parameters.length) = some 3 := by decide +kernel
theorem dX11_person_0 : decode cX11_person 0 = .ok (.iload_n 1, 1) := by decide +kernel
theorem dX11_person_1 : decode cX11_person 1 = .ok (.bipush 8, 2) := by decide +kernel
theorem dX11_person_3 : decode cX11_person 3 = .ok (.invokestatic 70, 3) := by decide +kernel
theorem dX11_person_6 : decode cX11_person 6 = .ok (.ifCond .eq 21, 3) := by decide +kernel
theorem dX11_person_9 : decode cX11_person 9 = .ok (.iload_n 2, 1) := by decide +kernel
theorem dX11_person_10 : decode cX11_person 10 = .ok (.iconst 0, 1) := by decide +kernel
theorem dX11_person_11 : decode cX11_person 11 = .ok (.bipush 10, 2) := by decide +kernel
theorem dX11_person_13 : decode cX11_person 13 = .ok (.invokestatic 74, 3) := by decide +kernel
theorem dX11_person_16 : decode cX11_person 16 = .ok (.ifCond .eq 11, 3) := by decide +kernel
theorem dX11_person_19 : decode cX11_person 19 = .ok (.iload_n 3, 1) := by decide +kernel
theorem dX11_person_20 : decode cX11_person 20 = .ok (.iconst 4, 1) := by decide +kernel
theorem dX11_person_21 : decode cX11_person 21 = .ok (.invokestatic 70, 3) := by decide +kernel
theorem dX11_person_24 : decode cX11_person 24 = .ok (.ifCond .ne 5, 3) := by decide +kernel
theorem dX11_person_27 : decode cX11_person 27 = .ok (.iconst 0, 1) := by decide +kernel
theorem dX11_person_28 : decode cX11_person 28 = .ok (.ireturn, 1) := by decide +kernel
theorem dX11_person_29 : decode cX11_person 29 = .ok (.aload_n 0, 1) := by decide +kernel
theorem dX11_person_30 : decode cX11_person 30 = .ok (.getfield 10, 3) := by decide +kernel
theorem dX11_person_33 : decode cX11_person 33 = .ok (.iload_n 1, 1) := by decide +kernel
theorem dX11_person_34 : decode cX11_person 34 = .ok (.iload_n 2, 1) := by decide +kernel
theorem dX11_person_35 : decode cX11_person 35 = .ok (.iload_n 3, 1) := by decide +kernel
theorem dX11_person_36 : decode cX11_person 36 = .ok (.invokevirtual 88, 3) := by decide +kernel
theorem dX11_person_39 : decode cX11_person 39 = .ok (.iconst 1, 1) := by decide +kernel
theorem dX11_person_40 : decode cX11_person 40 = .ok (.ireturn, 1) := by decide +kernel
set_option maxHeartbeats 4000000 in
set_option maxRecDepth 100000 in
theorem f_person (l : Launch) (D : va_G) (cy : Nat → ClassId) (ad : Nat → Nat) (V J : Nat → Nat → Int) (Rr : Nat → Nat → Nat) (hV : VR V) (hJ : VJ J) (x1 x2 x3 : Int) (hx1 : R32 x1) (hx2 : R32 x2) (hx3 : R32 x3) (hnp : NPl V 1) (hne : NPe V 1) (htl : V 58 1 = 0) (hto : V 1 2 = 0) : xMi l D (xTY cy) yX11_person cX11_person 4 (some .boolean) 1 24 0 0 [.ref (ad 0), vI x1, vI x2, vI x3] (XW cy ad V J Rr) (fun u : xS => XW cy ad u.1 u.2.1 u.2.2) (fun r _ => (r = 1 ∧ 0 ≤ x1 ∧ x1 < 8 ∧ 0 ≤ x2 ∧ x2 ≤ 10 ∧ 0 ≤ x3 ∧ x3 < 4) ∨ (r = 0 ∧ ¬ (0 ≤ x1 ∧ x1 < 8 ∧ 0 ≤ x2 ∧ x2 ≤ 10 ∧ 0 ≤ x3 ∧ x3 < 4))) := by
  refine xMi.mk (lv0 := [(0, .ref (ad 0)), (1, vI x1), (2, vI x2), (3, vI x3)]) (by decide) rfl (Nat.le_of_ble_eq_true rfl) (fun p e s m below meth c A C hr hnm hAe => ?_)
  have C : xC2 p s m _ meth c D A s.heap 4 cX11_person RX11 (xTY cy) := C
  refine x_iload_n C.1 dX11_person_0 1 rfl ?_
  refine x_bipush C.1 (n := 8) dX11_person_1 ?_
  refine x_callSi C (As := [vI x1, vI 8]) (rest := []) (c_isPlace l D cy x1 8 hx1 (by decide)) (l1 := []) (l2 := _) rfl (w2 := fun _ => _) (fun _ => rfl) rfl wm_yX11_isPlace wn_X11 wl_X11_70 wi_yX11_isPlace hd_yX11_isPlace rfl ⟨Nat.le_of_ble_eq_true rfl, Nat.le_of_ble_eq_true rfl⟩ (Nat.le_of_ble_eq_true rfl) ⟨Nat.le_of_ble_eq_true rfl, Nat.le_of_ble_eq_true rfl⟩ dX11_person_3 (fun r1 u1 hr1 h1 => ?_)
  rcases h1 with ⟨rfl, t1, t1b⟩ | ⟨rfl, t1⟩
  · refine x_if_eq_f C.1 (tgt := 27) dX11_person_6 (by decide) (by decide) (by decide) ?_
    refine x_iload_n C.1 dX11_person_9 2 rfl ?_
    refine x_iconst C.1 (n := 0) dX11_person_10 ?_
    refine x_bipush C.1 (n := 10) dX11_person_11 ?_
    refine x_callSi C (As := [vI x2, vI 0, vI 10]) (rest := []) (c_isWithin l D cy x2 0 10 hx2 (by decide) (by decide)) (l1 := []) (l2 := _) rfl (w2 := fun _ => _) (fun _ => rfl) rfl wm_yX11_isWithin wn_X11 wl_X11_74 wi_yX11_isWithin hd_yX11_isWithin rfl ⟨Nat.le_of_ble_eq_true rfl, Nat.le_of_ble_eq_true rfl⟩ (Nat.le_of_ble_eq_true rfl) ⟨Nat.le_of_ble_eq_true rfl, Nat.le_of_ble_eq_true rfl⟩ dX11_person_13 (fun r2 u2 hr2 h2 => ?_)
    rcases h2 with ⟨rfl, t2, t2b⟩ | ⟨rfl, t2⟩
    · refine x_if_eq_f C.1 (tgt := 27) dX11_person_16 (by decide) (by decide) (by decide) ?_
      refine x_iload_n C.1 dX11_person_19 3 rfl ?_
      refine x_iconst C.1 (n := 4) dX11_person_20 ?_
      refine x_callSi C (As := [vI x3, vI 4]) (rest := []) (c_isPlace l D cy x3 4 hx3 (by decide)) (l1 := []) (l2 := _) rfl (w2 := fun _ => _) (fun _ => rfl) rfl wm_yX11_isPlace wn_X11 wl_X11_70 wi_yX11_isPlace hd_yX11_isPlace rfl ⟨Nat.le_of_ble_eq_true rfl, Nat.le_of_ble_eq_true rfl⟩ (Nat.le_of_ble_eq_true rfl) ⟨Nat.le_of_ble_eq_true rfl, Nat.le_of_ble_eq_true rfl⟩ dX11_person_21 (fun r3 u3 hr3 h3 => ?_)
      rcases h3 with ⟨rfl, t3, t3b⟩ | ⟨rfl, t3⟩
      · refine x_if_ne_t C.1 (tgt := 29) dX11_person_24 (by decide) (by decide) (by decide) ?_
        refine x_aload_n C.1 dX11_person_29 0 rfl ?_
        refine x_getA C (N := 129) (i := 0) (by decide) rfl vc_X11 wx_X11 0 (by decide) wf_X11_10 (a := 1) rfl dX11_person_30 ?_
        refine x_iload_n C.1 dX11_person_33 1 rfl ?_
        refine x_iload_n C.1 dX11_person_34 2 rfl ?_
        refine x_iload_n C.1 dX11_person_35 3 rfl ?_
        refine x_callVv C (As := [vI x1, vI x2, vI x3]) (rest := []) 1 (xw_at (N := 129) (i := 1) (by omega) (xd_L (Or.inl rfl))) vc_X3 (f_tellPerson l D cy ad V J Rr hV hJ 1 (Or.inl rfl) x1 x2 x3 hx1 hx2 hx3 (by omega) (by omega)) (l1 := []) (l2 := []) (List.append_nil _).symm (w2 := fun u : xS => XW cy ad u.1 u.2.1 u.2.2) (fun _ => List.append_nil _) rfl wm_yX3_tellPerson wn_X3 wl_X11_88 wi_yX3_tellPerson we_yX3_tellPerson hd_yX3_tellPerson rfl ⟨Nat.le_of_ble_eq_true rfl, Nat.le_of_ble_eq_true rfl⟩ (Nat.le_of_ble_eq_true rfl) ⟨Nat.le_of_ble_eq_true rfl, Nat.le_of_ble_eq_true rfl⟩ dX11_person_36 (fun u4 h4 => ?_)
        refine x_iconst C.1 (n := 1) dX11_person_39 ?_
        exact x_zret (S := xS) (post := fun r _ => (r = 1 ∧ 0 ≤ x1 ∧ x1 < 8 ∧ 0 ≤ x2 ∧ x2 ≤ 10 ∧ 0 ≤ x3 ∧ x3 < 4) ∨ (r = 0 ∧ ¬ (0 ≤ x1 ∧ x1 < 8 ∧ 0 ≤ x2 ∧ x2 ≤ 10 ∧ 0 ≤ x3 ∧ x3 < 4))) (w1 := fun u : xS => XW cy ad u.1 u.2.1 u.2.2) (a := 1) C hr rfl dX11_person_40 (by decide) (u4.1, u4.2.1, u4.2.2) rfl (by omega)
      · refine x_if_ne_f C.1 (tgt := 29) dX11_person_24 (by decide) (by decide) (by decide) ?_
        refine x_iconst C.1 (n := 0) dX11_person_27 ?_
        exact x_zret (S := xS) (post := fun r _ => (r = 1 ∧ 0 ≤ x1 ∧ x1 < 8 ∧ 0 ≤ x2 ∧ x2 ≤ 10 ∧ 0 ≤ x3 ∧ x3 < 4) ∨ (r = 0 ∧ ¬ (0 ≤ x1 ∧ x1 < 8 ∧ 0 ≤ x2 ∧ x2 ≤ 10 ∧ 0 ≤ x3 ∧ x3 < 4))) (w1 := fun u : xS => XW cy ad u.1 u.2.1 u.2.2) (a := 0) C hr rfl dX11_person_28 (by decide) (V, J, Rr) rfl (by omega)
    · refine x_if_eq_t C.1 (tgt := 27) dX11_person_16 (by decide) (by decide) (by decide) ?_
      refine x_iconst C.1 (n := 0) dX11_person_27 ?_
      exact x_zret (S := xS) (post := fun r _ => (r = 1 ∧ 0 ≤ x1 ∧ x1 < 8 ∧ 0 ≤ x2 ∧ x2 ≤ 10 ∧ 0 ≤ x3 ∧ x3 < 4) ∨ (r = 0 ∧ ¬ (0 ≤ x1 ∧ x1 < 8 ∧ 0 ≤ x2 ∧ x2 ≤ 10 ∧ 0 ≤ x3 ∧ x3 < 4))) (w1 := fun u : xS => XW cy ad u.1 u.2.1 u.2.2) (a := 0) C hr rfl dX11_person_28 (by decide) (V, J, Rr) rfl (by omega)
  · refine x_if_eq_t C.1 (tgt := 27) dX11_person_6 (by decide) (by decide) (by decide) ?_
    refine x_iconst C.1 (n := 0) dX11_person_27 ?_
    exact x_zret (S := xS) (post := fun r _ => (r = 1 ∧ 0 ≤ x1 ∧ x1 < 8 ∧ 0 ≤ x2 ∧ x2 ≤ 10 ∧ 0 ≤ x3 ∧ x3 < 4) ∨ (r = 0 ∧ ¬ (0 ≤ x1 ∧ x1 < 8 ∧ 0 ≤ x2 ∧ x2 ≤ 10 ∧ 0 ≤ x3 ∧ x3 < 4))) (w1 := fun u : xS => XW cy ad u.1 u.2.1 u.2.2) (a := 0) C hr rfl dX11_person_28 (by decide) (V, J, Rr) rfl (by omega)
theorem dX8_hasRoom_0 : decode cX8_hasRoom 0 = .ok (.aload_n 0, 1) := by decide +kernel
theorem dX8_hasRoom_1 : decode cX8_hasRoom 1 = .ok (.getfield 15, 3) := by decide +kernel
theorem dX8_hasRoom_4 : decode cX8_hasRoom 4 = .ok (.iload_n 1, 1) := by decide +kernel
theorem dX8_hasRoom_5 : decode cX8_hasRoom 5 = .ok (.iadd, 1) := by decide +kernel
theorem dX8_hasRoom_6 : decode cX8_hasRoom 6 = .ok (.sipush 220, 3) := by decide +kernel
theorem dX8_hasRoom_9 : decode cX8_hasRoom 9 = .ok (.if_icmp .gt 7, 3) := by decide +kernel
theorem dX8_hasRoom_12 : decode cX8_hasRoom 12 = .ok (.iconst 1, 1) := by decide +kernel
theorem dX8_hasRoom_13 : decode cX8_hasRoom 13 = .ok (.goto 4, 3) := by decide +kernel
theorem dX8_hasRoom_16 : decode cX8_hasRoom 16 = .ok (.iconst 0, 1) := by decide +kernel
theorem dX8_hasRoom_17 : decode cX8_hasRoom 17 = .ok (.ireturn, 1) := by decide +kernel
set_option maxHeartbeats 4000000 in
set_option maxRecDepth 100000 in
theorem c_hasRoom (l : Launch) (D : va_G) (cy : Nat → ClassId) (ad : Nat → Nat) (V J : Nat → Nat → Int) (Rr : Nat → Nat → Nat) (hV : VR V) (hJ : VJ J) (x1 : Int) (hx1 : R32 x1) (hr1 : 0 ≤ x1 ∧ x1 ≤ 1000) (hl : 0 ≤ V 58 1 ∧ V 58 1 ≤ 220) : xMi l D (xTY cy) yX8_hasRoom cX8_hasRoom 2 (some .boolean) 0 0 0 0 [.ref (ad 58), vI x1] (XW cy ad V J Rr) (fun _ : Unit => XW cy ad V J Rr) (fun r _ => (r = 1 ∧ V 58 1 + x1 ≤ 220) ∨ (r = 0 ∧ ¬ V 58 1 + x1 ≤ 220)) := by
  refine xMi.mk (lv0 := [(0, .ref (ad 58)), (1, vI x1)]) (by decide) rfl (Nat.le_of_ble_eq_true rfl) (fun p e s m below meth c A C hr hnm hAe => ?_)
  have C : xC2 p s m _ meth c D A s.heap 2 cX8_hasRoom RX8 (xTY cy) := C
  refine x_aload_n C.1 dX8_hasRoom_0 0 rfl ?_
  refine x_getI C (N := 129) (i := 58) (by decide) rfl vc_X8 wx_X8 1 (by decide) wf_X8_15 rfl dX8_hasRoom_1 (a := V 58 1) rfl ?_
  refine x_iload_n C.1 dX8_hasRoom_4 1 rfl ?_
  refine x_iadd C.1 (v := (V 58 1) + x1) rfl dX8_hasRoom_5 ?_
  refine x_sipush C.1 (n := 220) dX8_hasRoom_6 ?_
  refine x_icmp_gt C.1 (tgt := 16) dX8_hasRoom_9 (by decide) (by omega) (by decide) (fun c9_1 => ?_) (fun c9_1 => ?_)
  · refine x_iconst C.1 (n := 0) dX8_hasRoom_16 ?_
    exact x_zret (S := Unit) (post := fun r _ => (r = 1 ∧ V 58 1 + x1 ≤ 220) ∨ (r = 0 ∧ ¬ V 58 1 + x1 ≤ 220)) (w1 := fun _ : Unit => XW cy ad V J Rr) (a := 0) C hr rfl dX8_hasRoom_17 (by decide) () rfl (by omega)
  · refine x_iconst C.1 (n := 1) dX8_hasRoom_12 ?_
    refine x_goto C.1 (tgt := 17) dX8_hasRoom_13 (by decide) ?_
    exact x_zret (S := Unit) (post := fun r _ => (r = 1 ∧ V 58 1 + x1 ≤ 220) ∨ (r = 0 ∧ ¬ V 58 1 + x1 ≤ 220)) (w1 := fun _ : Unit => XW cy ad V J Rr) (a := 1) C hr rfl dX8_hasRoom_17 (by decide) () rfl (by omega)
theorem dX8_add_0 : decode cX8_add 0 = .ok (.bipush 24, 2) := by decide +kernel
theorem dX8_add_2 : decode cX8_add 2 = .ok (.istore_n 2, 1) := by decide +kernel
theorem dX8_add_3 : decode cX8_add 3 = .ok (.iload_n 2, 1) := by decide +kernel
theorem dX8_add_4 : decode cX8_add 4 = .ok (.ifCond .lt 45, 3) := by decide +kernel
theorem dX8_add_7 : decode cX8_add 7 = .ok (.aload_n 0, 1) := by decide +kernel
theorem dX8_add_8 : decode cX8_add 8 = .ok (.getfield 15, 3) := by decide +kernel
theorem dX8_add_11 : decode cX8_add 11 = .ok (.sipush 220, 3) := by decide +kernel
theorem dX8_add_14 : decode cX8_add 14 = .ok (.if_icmp .ge 35, 3) := by decide +kernel
theorem dX8_add_17 : decode cX8_add 17 = .ok (.aload_n 0, 1) := by decide +kernel
theorem dX8_add_18 : decode cX8_add 18 = .ok (.getfield 11, 3) := by decide +kernel
theorem dX8_add_21 : decode cX8_add 21 = .ok (.aload_n 0, 1) := by decide +kernel
theorem dX8_add_22 : decode cX8_add 22 = .ok (.getfield 15, 3) := by decide +kernel
theorem dX8_add_25 : decode cX8_add 25 = .ok (.iload_n 1, 1) := by decide +kernel
theorem dX8_add_26 : decode cX8_add 26 = .ok (.iload_n 2, 1) := by decide +kernel
theorem dX8_add_27 : decode cX8_add 27 = .ok (.ishr, 1) := by decide +kernel
theorem dX8_add_28 : decode cX8_add 28 = .ok (.sipush 255, 3) := by decide +kernel
theorem dX8_add_31 : decode cX8_add 31 = .ok (.iand, 1) := by decide +kernel
theorem dX8_add_32 : decode cX8_add 32 = .ok (.iastore, 1) := by decide +kernel
theorem dX8_add_33 : decode cX8_add 33 = .ok (.aload_n 0, 1) := by decide +kernel
theorem dX8_add_34 : decode cX8_add 34 = .ok (.dup, 1) := by decide +kernel
theorem dX8_add_35 : decode cX8_add 35 = .ok (.getfield 15, 3) := by decide +kernel
theorem dX8_add_38 : decode cX8_add 38 = .ok (.iconst 1, 1) := by decide +kernel
theorem dX8_add_39 : decode cX8_add 39 = .ok (.iadd, 1) := by decide +kernel
theorem dX8_add_40 : decode cX8_add 40 = .ok (.putfield 15, 3) := by decide +kernel
theorem dX8_add_43 : decode cX8_add 43 = .ok (.iinc 2 (-8), 3) := by decide +kernel
theorem dX8_add_46 : decode cX8_add 46 = .ok (.goto (-43), 3) := by decide +kernel
theorem dX8_add_49 : decode cX8_add 49 = .ok (.return_, 1) := by decide +kernel
set_option maxHeartbeats 4000000 in
set_option maxRecDepth 100000 in
theorem c_add (l : Launch) (D : va_G) (cy : Nat → ClassId) (ad : Nat → Nat) (V J : Nat → Nat → Int) (Rr : Nat → Nat → Nat) (hV : VR V) (hJ : VJ J) (x1 : Int) (hx1 : R32 x1) (hl : 0 ≤ V 58 1 ∧ V 58 1 ≤ 216) : xMv l D (xTY cy) yX8_add cX8_add 3 none 0 0 0 0 [.ref (ad 58), vI x1] (XW cy ad V J Rr) (fun u : xS => XW cy ad u.1 u.2.1 u.2.2) (fun u => u.1 58 1 = V 58 1 + 4 ∧ VR u.1 ∧ (∀ j, j ≠ 58 → j ≠ 59 → u.1 j = V j) ∧ (J, Rr) = u.2) := by
  refine xMv.mk (lv0 := [(0, .ref (ad 58)), (1, vI x1)]) (by decide) rfl (Nat.le_of_ble_eq_true rfl) (fun p e s m below meth c A C hr hnm hAe => ?_)
  have C : xC2 p s m _ meth c D A s.heap 3 cX8_add RX8 (xTY cy) := C
  refine x_bipush C.1 (n := 24) dX8_add_0 ?_
  refine x_istore_n C.1 (lv' := [(2, vI 24), (0, .ref (ad 58)), (1, vI x1)]) dX8_add_2 (by decide) rfl ?_
  refine x_iload_n C.1 dX8_add_3 0 rfl ?_
  refine x_if_lt_f C.1 (tgt := 49) dX8_add_4 (by decide) (by decide) (by decide) ?_
  refine x_aload_n C.1 dX8_add_7 1 rfl ?_
  refine x_getI C (N := 129) (i := 58) (by decide) rfl vc_X8 wx_X8 1 (by decide) wf_X8_15 rfl dX8_add_8 (a := V 58 1) rfl ?_
  refine x_sipush C.1 (n := 220) dX8_add_11 ?_
  refine x_icmp_ge_f C.1 (tgt := 49) dX8_add_14 (by decide) (hV _ _) (by decide) (by omega) ?_
  refine x_aload_n C.1 dX8_add_17 1 rfl ?_
  refine x_getA C (N := 129) (i := 58) (by decide) rfl vc_X8 wx_X8 0 (by decide) wf_X8_11 (a := 59) rfl dX8_add_18 ?_
  refine x_aload_n C.1 dX8_add_21 1 rfl ?_
  refine x_getI C (N := 129) (i := 58) (by decide) rfl vc_X8 wx_X8 1 (by decide) wf_X8_15 rfl dX8_add_22 (a := V 58 1) rfl ?_
  refine x_iload_n C.1 dX8_add_25 2 rfl ?_
  refine x_iload_n C.1 dX8_add_26 0 rfl ?_
  refine x_ishr C.1 (v := iShr x1 24) rfl dX8_add_27 ?_
  refine x_sipush C.1 (n := 255) dX8_add_28 ?_
  refine x_iand C.1 (v := iAnd (iShr x1 24) 255) rfl dX8_add_31 ?_
  refine x_iast C (N := 129) (i := 59) (q := V 58 1) (a := iAnd (iShr x1 24) 255) (by decide) rfl (by omega) (by decide) dX8_add_32 ?_
  refine x_aload_n C.1 dX8_add_33 1 rfl ?_
  refine x_dup C.1 dX8_add_34 rfl ?_
  refine x_getI C (N := 129) (i := 58) (by decide) rfl vc_X8 wx_X8 1 (by decide) wf_X8_15 rfl dX8_add_35 (a := V 58 1) ((up2_n _ _ (Or.inl (by decide))).trans rfl) ?_
  refine x_iconst C.1 (n := 1) dX8_add_38 ?_
  refine x_iadd C.1 (v := (V 58 1) + 1) rfl dX8_add_39 ?_
  refine x_putI C (N := 129) (i := 58) (by decide) rfl vc_X8 wx_X8 1 (by decide) wf_X8_15 tyX8 tyX8_ok nmX8 rfl (tyX8_ok 1 (by decide)) rfl dX8_add_40 rfl rfl ?_
  refine x_iinc C.1 (v := 16) (lv' := [(2, vI 16), (0, .ref (ad 58)), (1, vI x1)]) (by decide) dX8_add_43 0 rfl (by decide) rfl ?_
  refine x_goto C.1 (tgt := 3) dX8_add_46 (by decide) ?_
  refine x_iload_n C.1 dX8_add_3 0 rfl ?_
  refine x_if_lt_f C.1 (tgt := 49) dX8_add_4 (by decide) (by decide) (by decide) ?_
  refine x_aload_n C.1 dX8_add_7 1 rfl ?_
  refine x_getI C (N := 129) (i := 58) (by decide) rfl vc_X8 wx_X8 1 (by decide) wf_X8_15 rfl dX8_add_8 (a := (V 58 1) + 1) (up2_s _ _ _ _) ?_
  refine x_sipush C.1 (n := 220) dX8_add_11 ?_
  refine x_icmp_ge_f C.1 (tgt := 49) dX8_add_14 (by decide) (by omega) (by decide) (by omega) ?_
  refine x_aload_n C.1 dX8_add_17 1 rfl ?_
  refine x_getA C (N := 129) (i := 58) (by decide) rfl vc_X8 wx_X8 0 (by decide) wf_X8_11 (a := 59) rfl dX8_add_18 ?_
  refine x_aload_n C.1 dX8_add_21 1 rfl ?_
  refine x_getI C (N := 129) (i := 58) (by decide) rfl vc_X8 wx_X8 1 (by decide) wf_X8_15 rfl dX8_add_22 (a := (V 58 1) + 1) (up2_s _ _ _ _) ?_
  refine x_iload_n C.1 dX8_add_25 2 rfl ?_
  refine x_iload_n C.1 dX8_add_26 0 rfl ?_
  refine x_ishr C.1 (v := iShr x1 16) rfl dX8_add_27 ?_
  refine x_sipush C.1 (n := 255) dX8_add_28 ?_
  refine x_iand C.1 (v := iAnd (iShr x1 16) 255) rfl dX8_add_31 ?_
  refine x_iast C (N := 129) (i := 59) (q := (V 58 1) + 1) (a := iAnd (iShr x1 16) 255) (by decide) rfl (by omega) (by decide) dX8_add_32 ?_
  refine x_aload_n C.1 dX8_add_33 1 rfl ?_
  refine x_dup C.1 dX8_add_34 rfl ?_
  refine x_getI C (N := 129) (i := 58) (by decide) rfl vc_X8 wx_X8 1 (by decide) wf_X8_15 rfl dX8_add_35 (a := (V 58 1) + 1) ((up2_n _ _ (Or.inl (by decide))).trans (up2_s _ _ _ _)) ?_
  refine x_iconst C.1 (n := 1) dX8_add_38 ?_
  refine x_iadd C.1 (v := ((V 58 1) + 1) + 1) rfl dX8_add_39 ?_
  refine x_putI C (N := 129) (i := 58) (by decide) rfl vc_X8 wx_X8 1 (by decide) wf_X8_15 tyX8 tyX8_ok nmX8 rfl (tyX8_ok 1 (by decide)) rfl dX8_add_40 rfl rfl ?_
  refine x_iinc C.1 (v := 8) (lv' := [(2, vI 8), (0, .ref (ad 58)), (1, vI x1)]) (by decide) dX8_add_43 0 rfl (by decide) rfl ?_
  refine x_goto C.1 (tgt := 3) dX8_add_46 (by decide) ?_
  refine x_iload_n C.1 dX8_add_3 0 rfl ?_
  refine x_if_lt_f C.1 (tgt := 49) dX8_add_4 (by decide) (by decide) (by decide) ?_
  refine x_aload_n C.1 dX8_add_7 1 rfl ?_
  refine x_getI C (N := 129) (i := 58) (by decide) rfl vc_X8 wx_X8 1 (by decide) wf_X8_15 rfl dX8_add_8 (a := ((V 58 1) + 1) + 1) (up2_s _ _ _ _) ?_
  refine x_sipush C.1 (n := 220) dX8_add_11 ?_
  refine x_icmp_ge_f C.1 (tgt := 49) dX8_add_14 (by decide) (by omega) (by decide) (by omega) ?_
  refine x_aload_n C.1 dX8_add_17 1 rfl ?_
  refine x_getA C (N := 129) (i := 58) (by decide) rfl vc_X8 wx_X8 0 (by decide) wf_X8_11 (a := 59) rfl dX8_add_18 ?_
  refine x_aload_n C.1 dX8_add_21 1 rfl ?_
  refine x_getI C (N := 129) (i := 58) (by decide) rfl vc_X8 wx_X8 1 (by decide) wf_X8_15 rfl dX8_add_22 (a := ((V 58 1) + 1) + 1) (up2_s _ _ _ _) ?_
  refine x_iload_n C.1 dX8_add_25 2 rfl ?_
  refine x_iload_n C.1 dX8_add_26 0 rfl ?_
  refine x_ishr C.1 (v := iShr x1 8) rfl dX8_add_27 ?_
  refine x_sipush C.1 (n := 255) dX8_add_28 ?_
  refine x_iand C.1 (v := iAnd (iShr x1 8) 255) rfl dX8_add_31 ?_
  refine x_iast C (N := 129) (i := 59) (q := ((V 58 1) + 1) + 1) (a := iAnd (iShr x1 8) 255) (by decide) rfl (by omega) (by decide) dX8_add_32 ?_
  refine x_aload_n C.1 dX8_add_33 1 rfl ?_
  refine x_dup C.1 dX8_add_34 rfl ?_
  refine x_getI C (N := 129) (i := 58) (by decide) rfl vc_X8 wx_X8 1 (by decide) wf_X8_15 rfl dX8_add_35 (a := ((V 58 1) + 1) + 1) ((up2_n _ _ (Or.inl (by decide))).trans (up2_s _ _ _ _)) ?_
  refine x_iconst C.1 (n := 1) dX8_add_38 ?_
  refine x_iadd C.1 (v := (((V 58 1) + 1) + 1) + 1) rfl dX8_add_39 ?_
  refine x_putI C (N := 129) (i := 58) (by decide) rfl vc_X8 wx_X8 1 (by decide) wf_X8_15 tyX8 tyX8_ok nmX8 rfl (tyX8_ok 1 (by decide)) rfl dX8_add_40 rfl rfl ?_
  refine x_iinc C.1 (v := 0) (lv' := [(2, vI 0), (0, .ref (ad 58)), (1, vI x1)]) (by decide) dX8_add_43 0 rfl (by decide) rfl ?_
  refine x_goto C.1 (tgt := 3) dX8_add_46 (by decide) ?_
  refine x_iload_n C.1 dX8_add_3 0 rfl ?_
  refine x_if_lt_f C.1 (tgt := 49) dX8_add_4 (by decide) (by decide) (by decide) ?_
  refine x_aload_n C.1 dX8_add_7 1 rfl ?_
  refine x_getI C (N := 129) (i := 58) (by decide) rfl vc_X8 wx_X8 1 (by decide) wf_X8_15 rfl dX8_add_8 (a := (((V 58 1) + 1) + 1) + 1) (up2_s _ _ _ _) ?_
  refine x_sipush C.1 (n := 220) dX8_add_11 ?_
  refine x_icmp_ge_f C.1 (tgt := 49) dX8_add_14 (by decide) (by omega) (by decide) (by omega) ?_
  refine x_aload_n C.1 dX8_add_17 1 rfl ?_
  refine x_getA C (N := 129) (i := 58) (by decide) rfl vc_X8 wx_X8 0 (by decide) wf_X8_11 (a := 59) rfl dX8_add_18 ?_
  refine x_aload_n C.1 dX8_add_21 1 rfl ?_
  refine x_getI C (N := 129) (i := 58) (by decide) rfl vc_X8 wx_X8 1 (by decide) wf_X8_15 rfl dX8_add_22 (a := (((V 58 1) + 1) + 1) + 1) (up2_s _ _ _ _) ?_
  refine x_iload_n C.1 dX8_add_25 2 rfl ?_
  refine x_iload_n C.1 dX8_add_26 0 rfl ?_
  refine x_ishr C.1 (v := iShr x1 0) rfl dX8_add_27 ?_
  refine x_sipush C.1 (n := 255) dX8_add_28 ?_
  refine x_iand C.1 (v := iAnd (iShr x1 0) 255) rfl dX8_add_31 ?_
  refine x_iast C (N := 129) (i := 59) (q := (((V 58 1) + 1) + 1) + 1) (a := iAnd (iShr x1 0) 255) (by decide) rfl (by omega) (by decide) dX8_add_32 ?_
  refine x_aload_n C.1 dX8_add_33 1 rfl ?_
  refine x_dup C.1 dX8_add_34 rfl ?_
  refine x_getI C (N := 129) (i := 58) (by decide) rfl vc_X8 wx_X8 1 (by decide) wf_X8_15 rfl dX8_add_35 (a := (((V 58 1) + 1) + 1) + 1) ((up2_n _ _ (Or.inl (by decide))).trans (up2_s _ _ _ _)) ?_
  refine x_iconst C.1 (n := 1) dX8_add_38 ?_
  refine x_iadd C.1 (v := ((((V 58 1) + 1) + 1) + 1) + 1) rfl dX8_add_39 ?_
  refine x_putI C (N := 129) (i := 58) (by decide) rfl vc_X8 wx_X8 1 (by decide) wf_X8_15 tyX8 tyX8_ok nmX8 rfl (tyX8_ok 1 (by decide)) rfl dX8_add_40 rfl rfl ?_
  refine x_iinc C.1 (v := (-8)) (lv' := [(2, vI (-8)), (0, .ref (ad 58)), (1, vI x1)]) (by decide) dX8_add_43 0 rfl (by decide) rfl ?_
  refine x_goto C.1 (tgt := 3) dX8_add_46 (by decide) ?_
  refine x_iload_n C.1 dX8_add_3 0 rfl ?_
  refine x_if_lt_t C.1 (tgt := 49) dX8_add_4 (by decide) (by decide) (by decide) ?_
  exact x_vret (S := xS) (post := fun u => u.1 58 1 = V 58 1 + 4 ∧ VR u.1 ∧ (∀ j, j ≠ 58 → j ≠ 59 → u.1 j = V j) ∧ (J, Rr) = u.2) (w1 := fun u : xS => XW cy ad u.1 u.2.1 u.2.2) C hr rfl dX8_add_49 ((up2 (up2 (up2 (up2 (up2 (up2 (up2 (up2 V 59 ((V 58 1).toNat) (iAnd (iShr x1 24) 255)) 58 1 ((V 58 1) + 1)) 59 (((V 58 1) + 1).toNat) (iAnd (iShr x1 16) 255)) 58 1 (((V 58 1) + 1) + 1)) 59 ((((V 58 1) + 1) + 1).toNat) (iAnd (iShr x1 8) 255)) 58 1 ((((V 58 1) + 1) + 1) + 1)) 59 (((((V 58 1) + 1) + 1) + 1).toNat) (iAnd (iShr x1 0) 255)) 58 1 (((((V 58 1) + 1) + 1) + 1) + 1)), J, Rr) rfl ⟨by simp [up2, up1] <;> omega, (VR_up (VR_up (VR_up (VR_up (VR_up (VR_up (VR_up (VR_up hV (xi_r _)) (by omega)) (xi_r _)) (by omega)) (xi_r _)) (by omega)) (xi_r _)) (by omega)), fun j h1 h2 => by simp [up2, h1, h2], rfl⟩
