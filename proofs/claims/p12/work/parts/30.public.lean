theorem hd_yX2_lives : yX2_lives.cls ≠ "java/lang/invoke/MethodHandle" ∧ yX2_lives.cls ≠ "java/lang/invoke/VarHandle" ∧ (parseMethodDescriptor yX2_lives.desc).map (fun d => d.parameters.length) = some 3 := by decide +kernel
theorem hd_yX2_take : yX2_take.cls ≠ "java/lang/invoke/MethodHandle" ∧ yX2_take.cls ≠ "java/lang/invoke/VarHandle" ∧ (parseMethodDescriptor yX2_take.desc).map (fun d => d.parameters.length) = some 3 := by decide +kernel
theorem dX11_livesAsItIs_0 : decode cX11_livesAsItIs 0 = .ok (.aload_n 0, 1) := by decide +kernel
theorem dX11_livesAsItIs_1 : decode cX11_livesAsItIs 1 = .ok (.getfield 41, 3) := by decide +kernel
theorem dX11_livesAsItIs_4 : decode cX11_livesAsItIs 4 = .ok (.aload_n 0, 1) := by decide +kernel
theorem dX11_livesAsItIs_5 : decode cX11_livesAsItIs 5 = .ok (.getfield 10, 3) := by decide +kernel
theorem dX11_livesAsItIs_8 : decode cX11_livesAsItIs 8 = .ok (.iload_n 1, 1) := by decide +kernel
theorem dX11_livesAsItIs_9 : decode cX11_livesAsItIs 9 = .ok (.iload_n 3, 1) := by decide +kernel
theorem dX11_livesAsItIs_10 : decode cX11_livesAsItIs 10 = .ok (.invokevirtual 215, 3) := by decide +kernel
theorem dX11_livesAsItIs_13 : decode cX11_livesAsItIs 13 = .ok (.aload_n 0, 1) := by decide +kernel
theorem dX11_livesAsItIs_14 : decode cX11_livesAsItIs 14 = .ok (.getfield 41, 3) := by decide +kernel
theorem dX11_livesAsItIs_17 : decode cX11_livesAsItIs 17 = .ok (.aload_n 0, 1) := by decide +kernel
theorem dX11_livesAsItIs_18 : decode cX11_livesAsItIs 18 = .ok (.getfield 10, 3) := by decide +kernel
theorem dX11_livesAsItIs_21 : decode cX11_livesAsItIs 21 = .ok (.aload_n 0, 1) := by decide +kernel
theorem dX11_livesAsItIs_22 : decode cX11_livesAsItIs 22 = .ok (.getfield 34, 3) := by decide +kernel
theorem dX11_livesAsItIs_25 : decode cX11_livesAsItIs 25 = .ok (.iload_n 2, 1) := by decide +kernel
theorem dX11_livesAsItIs_26 : decode cX11_livesAsItIs 26 = .ok (.invokevirtual 228, 3) := by decide +kernel
theorem dX11_livesAsItIs_29 : decode cX11_livesAsItIs 29 = .ok (.lreturn, 1) := by decide +kernel
set_option maxRecDepth 100000 in
def f_s_livesAsItIs (x1 : Int) (x2 : Int) (x3 : Int) (V : Nat → Nat → Int) (J : Nat → Nat → Int) (Rr : Nat → Nat → Nat) : (Int × xS) → Prop :=
  calUX (fun i k : Nat => (98 ≤ i ∧ i ≤ 104)) V (f_s_take 1 x1 x3 V J Rr) fun V1 => calSX (fun i k : Nat => (98 ≤ i ∧ i ≤ 104) ∨ (70 ≤ i ∧ i ≤ 70) ∨ (69 ≤ i ∧ i ≤ 71)) V1 (f_s_lives 1 x2 V1 J Rr) fun z2 V2 J2 R2 => rtn (z2, (V2, J2, R2))
set_option maxHeartbeats 8000000 in
set_option maxRecDepth 100000 in
theorem s_livesAsItIs (l : Launch) (D : va_G) (cy : Nat → ClassId) (ad : Nat → Nat) (G : Nat → Nat → Int) (V J : Nat → Nat → Int) (Rr : Nat → Nat → Nat) (hI : XI G V) (hJ : VJ J) (hR : XR Rr) (x1 : Int) (bx1 : 0 ≤ x1 ∧ x1 ≤ 3) (x2 : Int) (bx2 : 0 ≤ x2 ∧ x2 ≤ 9) (x3 : Int) (bx3 : 0 ≤ x3 ∧ x3 ≤ 3) : xMl l D (xTY cy) yX11_livesAsItIs cX11_livesAsItIs 4 (some .long) 6 155 0 0 [.ref (ad 0), vI x1, vI x2, vI x3] (XW cy ad V J Rr) (fun u : xS => XW cy ad u.1 u.2.1 u.2.2) (fun a (u : xS) => XS G u ∧ FB (fun i k : Nat => (98 ≤ i ∧ i ≤ 104) ∨ (70 ≤ i ∧ i ≤ 70) ∨ (69 ≤ i ∧ i ≤ 71)) V u.1 ∧ RK u.2.2 Rr ∧ (f_s_livesAsItIs x1 x2 x3 V J Rr) (a, u)) := by
  refine xMl.mk (lv0 := [(0, .ref (ad 0)), (1, vI x1), (2, vI x2), (3, vI x3)]) (by decide) rfl (Nat.le_of_ble_eq_true rfl) (fun p e s m below meth c A C hr hnm hAe => ?_)
  have C : xC2 p s m _ meth c D A s.heap 4 cX11_livesAsItIs RX11 (xTY cy) := C
  have hB : FB (fun i k : Nat => (98 ≤ i ∧ i ≤ 104) ∨ (70 ≤ i ∧ i ≤ 70) ∨ (69 ≤ i ∧ i ≤ 71)) V V := FB.rf _ _
  have hF := Imp.of_eq (f_s_livesAsItIs.eq_def x1 x2 x3 V J Rr)
  refine x_aload_n C.1 dX11_livesAsItIs_0 0 rfl ?_
  refine x_getA C (N := 129) (i := 0) (by decide) rfl vc_X11 wx_X11 6 (by decide) wf_X11_41 (a := 98) rfl dX11_livesAsItIs_1 ?_
  refine x_aload_n C.1 dX11_livesAsItIs_4 0 rfl ?_
  refine x_getA C (N := 129) (i := 0) (by decide) rfl vc_X11 wx_X11 0 (by decide) wf_X11_10 (a := 1) rfl dX11_livesAsItIs_5 ?_
  refine x_iload_n C.1 dX11_livesAsItIs_8 1 rfl ?_
  refine x_iload_n C.1 dX11_livesAsItIs_9 3 rfl ?_
  refine x_callVv C (As := [.ref (ad 1), vI x1, vI x3]) (rest := []) 98 (xw_at (N := 129) (i := 98) (by decide) rfl) vc_X2 (s_take l D cy ad G V J Rr hI hJ hR 1 (Or.inl rfl) x1 ⟨by omega, by omega⟩ x3 ⟨by omega, by omega⟩) (l1 := []) (l2 := []) (List.append_nil _).symm (w2 := fun u : Nat → Nat → Int => XW cy ad u J Rr) (fun _ => List.append_nil _) rfl wm_yX2_take wn_X2 wl_X11_215 wi_yX2_take we_yX2_take hd_yX2_take rfl ⟨Nat.le_of_ble_eq_true rfl, Nat.le_of_ble_eq_true rfl⟩ (Nat.le_of_ble_eq_true rfl) ⟨Nat.le_of_ble_eq_true rfl, Nat.le_of_ble_eq_true rfl⟩ dX11_livesAsItIs_10 (fun V1 h1 => ?_)
  obtain ⟨hI1, hBc1, hFc1⟩ := h1
  replace hF := calUX_i hF hFc1 hBc1
  have hB1 := hB.tr hBc1 (fun i k h => (Or.inl h))
  refine x_aload_n C.1 dX11_livesAsItIs_13 0 rfl ?_
  refine x_getA C (N := 129) (i := 0) (by decide) rfl vc_X11 wx_X11 6 (by decide) wf_X11_41 (a := 98) rfl dX11_livesAsItIs_14 ?_
  refine x_aload_n C.1 dX11_livesAsItIs_17 0 rfl ?_
  refine x_getA C (N := 129) (i := 0) (by decide) rfl vc_X11 wx_X11 0 (by decide) wf_X11_10 (a := 1) rfl dX11_livesAsItIs_18 ?_
  refine x_aload_n C.1 dX11_livesAsItIs_21 0 rfl ?_
  refine x_getA C (N := 129) (i := 0) (by decide) rfl vc_X11 wx_X11 5 (by decide) wf_X11_34 (a := 60) rfl dX11_livesAsItIs_22 ?_
  refine x_iload_n C.1 dX11_livesAsItIs_25 2 rfl ?_
  refine x_callVl C (As := [.ref (ad 1), .ref (ad 60), vI x2]) (rest := []) 98 (xw_at (N := 129) (i := 98) (by decide) rfl) vc_X2 (s_lives l D cy ad G V1 J Rr hI1 hJ hR 1 (Or.inl rfl) x2 ⟨by omega, by omega⟩) (l1 := []) (l2 := []) (List.append_nil _).symm (w2 := fun u : xS => XW cy ad u.1 u.2.1 u.2.2) (fun _ => List.append_nil _) rfl wm_yX2_lives wn_X2 wl_X11_228 wi_yX2_lives we_yX2_lives hd_yX2_lives rfl ⟨Nat.le_of_ble_eq_true rfl, Nat.le_of_ble_eq_true rfl⟩ (Nat.le_of_ble_eq_true rfl) ⟨Nat.le_of_ble_eq_true rfl, Nat.le_of_ble_eq_true rfl⟩ dX11_livesAsItIs_26 (fun z2 u2 bz2 h2 => ?_)
  obtain ⟨V2, J2, R2⟩ := u2
  obtain ⟨hS2, hBc2, hEc2, hFc2⟩ := h2
  replace hF := calSX_i hF hFc2 hBc2
  have hB2 := hB1.tr hBc2 (fun i k h => (h.elim (fun h => (Or.inl h)) (fun h => (h.elim (fun h => (Or.inr (Or.inl h))) (fun h => (Or.inr (Or.inr (h))))))))
  have hE2 : RK R2 Rr := RK.tr (RK.rf _) hEc2
  obtain ⟨hI2, hJ2, hR2⟩ := hS2
  dsimp only at hI2 hJ2 hR2 ⊢
  exact x_lret (S := xS) (post := (fun a (u : xS) => XS G u ∧ FB (fun i k : Nat => (98 ≤ i ∧ i ≤ 104) ∨ (70 ≤ i ∧ i ≤ 70) ∨ (69 ≤ i ∧ i ≤ 71)) V u.1 ∧ RK u.2.2 Rr ∧ (f_s_livesAsItIs x1 x2 x3 V J Rr) (a, u))) (w1 := (fun u : xS => XW cy ad u.1 u.2.1 u.2.2)) (a := z2) C hr rfl dX11_livesAsItIs_29 (by omega) (V2, J2, R2) rfl ⟨⟨hI2, hJ2, hR2⟩, hB2, hE2, hF _ rfl⟩
theorem dX11_seed_0 : decode cX11_seed 0 = .ok (.iload_n 1, 1) := by decide +kernel
theorem dX11_seed_1 : decode cX11_seed 1 = .ok (.iconst 0, 1) := by decide +kernel
theorem dX11_seed_2 : decode cX11_seed 2 = .ok (.ldc_w 326, 3) := by decide +kernel
theorem dX11_seed_5 : decode cX11_seed 5 = .ok (.invokestatic 74, 3) := by decide +kernel
theorem dX11_seed_8 : decode cX11_seed 8 = .ok (.ifCond .ne 5, 3) := by decide +kernel
theorem dX11_seed_11 : decode cX11_seed 11 = .ok (.iconst 0, 1) := by decide +kernel
theorem dX11_seed_12 : decode cX11_seed 12 = .ok (.ireturn, 1) := by decide +kernel
theorem dX11_seed_13 : decode cX11_seed 13 = .ok (.aload_n 0, 1) := by decide +kernel
theorem dX11_seed_14 : decode cX11_seed 14 = .ok (.getfield 10, 3) := by decide +kernel
theorem dX11_seed_17 : decode cX11_seed 17 = .ok (.iload_n 1, 1) := by decide +kernel
theorem dX11_seed_18 : decode cX11_seed 18 = .ok (.putfield 327, 3) := by decide +kernel
theorem dX11_seed_21 : decode cX11_seed 21 = .ok (.iconst 1, 1) := by decide +kernel
theorem dX11_seed_22 : decode cX11_seed 22 = .ok (.ireturn, 1) := by decide +kernel
set_option maxRecDepth 100000 in
def f_s_seed (x1 : Int) (V : Nat → Nat → Int) (J : Nat → Nat → Int) (Rr : Nat → Nat → Nat) : (Int × (Nat → Nat → Int)) → Prop :=
  calR (f_s_isWithin x1 0 65535) fun z1 => fct (0 ≤ z1 ∧ z1 ≤ 1) <| (if ¬ z1 = 0 then rdb (up2 V 1 4 x1) fun V4 => rtn (1, V4) else rtn (0, V))
set_option maxHeartbeats 8000000 in
set_option maxRecDepth 100000 in
theorem s_seed (l : Launch) (D : va_G) (cy : Nat → ClassId) (ad : Nat → Nat) (G : Nat → Nat → Int) (V J : Nat → Nat → Int) (Rr : Nat → Nat → Nat) (hI : XI G V) (hJ : VJ J) (hR : XR Rr) (x1 : Int) (bx1 : -2147483648 ≤ x1 ∧ x1 ≤ 2147483647) : xMi l D (xTY cy) yX11_seed cX11_seed 2 (some .boolean) 1 22 0 0 [.ref (ad 0), vI x1] (XW cy ad V J Rr) (fun u : Nat → Nat → Int => XW cy ad u J Rr) (fun a (u : Nat → Nat → Int) => XI G u ∧ ((a = 1 ∧ 0 ≤ x1 ∧ x1 ≤ 65535) ∨ (a = 0 ∧ ¬ (0 ≤ x1 ∧ x1 ≤ 65535))) ∧ FB (fun i k : Nat => (1 ≤ i ∧ i ≤ 19)) V u ∧ (f_s_seed x1 V J Rr) (a, u)) := by
  refine xMi.mk (lv0 := [(0, .ref (ad 0)), (1, vI x1)]) (by decide) rfl (Nat.le_of_ble_eq_true rfl) (fun p e s m below meth c A C hr hnm hAe => ?_)
  have C : xC2 p s m _ meth c D A s.heap 2 cX11_seed RX11 (xTY cy) := C
  have hB : FB (fun i k : Nat => (1 ≤ i ∧ i ≤ 19)) V V := FB.rf _ _
  have hF := Imp.of_eq (f_s_seed.eq_def x1 V J Rr)
  refine x_iload_n C.1 dX11_seed_0 1 rfl ?_
  refine x_iconst C.1 (n := 0) dX11_seed_1 ?_
  refine x_ldcw C.1 (n := 65535) wq_X11_326 dX11_seed_2 ?_
  refine x_callSi C (As := [vI x1, vI 0, vI 65535]) (rest := []) (s_isWithin l D cy x1 ⟨by omega, by omega⟩ 0 ⟨by decide, by decide⟩ 65535 ⟨by decide, by decide⟩) (l1 := []) (l2 := _) rfl (w2 := fun _ => _) (fun _ => rfl) rfl wm_yX11_isWithin wn_X11 wl_X11_74 wi_yX11_isWithin hd_yX11_isWithin rfl ⟨Nat.le_of_ble_eq_true rfl, Nat.le_of_ble_eq_true rfl⟩ (Nat.le_of_ble_eq_true rfl) ⟨Nat.le_of_ble_eq_true rfl, Nat.le_of_ble_eq_true rfl⟩ dX11_seed_5 (fun z1 u1 bz1 h1 => ?_)
  obtain ⟨bq1, hx1_0, hFc1⟩ := h1
  replace hF := calR_i hF hFc1
  replace hF := hF.fc bq1
  refine x_if_ne C.1 (tgt := 13) dX11_seed_8 (by decide) (by omega) (fun hc2 => ?_) (fun hc2 => ?_)
  · replace hF := hF.to (if_pos hc2)
    have hon3 := Sq.on hx1_0 (by omega)
    refine x_aload_n C.1 dX11_seed_13 0 rfl ?_
    refine x_getA C (N := 129) (i := 0) (by decide) rfl vc_X11 wx_X11 0 (by decide) wf_X11_10 (a := 1) rfl dX11_seed_14 ?_
    refine x_iload_n C.1 dX11_seed_17 1 rfl ?_
    refine x_putI C (N := 129) (i := 1) (by omega) (xd_L (Or.inl rfl)) vc_X3 wx_X3 4 (by decide) wf_X11_327 tyX3 tyX3_ok nmX3 rfl (tyX3_ok 4 (by decide)) rfl dX11_seed_18 rfl rfl ?_
    refine x_gV ?_
    intro V4 hV4
    have hI4 : XI G V4 := hI.up hV4 (rg_L (Or.inl rfl) _) (by omega) (pr_L (Or.inl rfl) _)
    have hB4 := hB.up hV4 (⟨by decide, by decide⟩)
    replace hF := hF.to (rdb_e (z := V4) hV4.symm)
    refine x_iconst C.1 (n := 1) dX11_seed_21 ?_
    exact x_zret (S := (Nat → Nat → Int)) (post := (fun a (u : Nat → Nat → Int) => XI G u ∧ ((a = 1 ∧ 0 ≤ x1 ∧ x1 ≤ 65535) ∨ (a = 0 ∧ ¬ (0 ≤ x1 ∧ x1 ≤ 65535))) ∧ FB (fun i k : Nat => (1 ≤ i ∧ i ≤ 19)) V u ∧ (f_s_seed x1 V J Rr) (a, u))) (w1 := (fun u : Nat → Nat → Int => XW cy ad u J Rr)) (a := 1) C hr rfl dX11_seed_22 (by decide) V4 rfl ⟨hI4, (by omega), hB4, hF _ rfl⟩
  · replace hF := hF.to (if_neg (fun hh => hh hc2))
    have hof5 := Sq.off hx1_0 (by omega)
    refine x_iconst C.1 (n := 0) dX11_seed_11 ?_
    exact x_zret (S := (Nat → Nat → Int)) (post := (fun a (u : Nat → Nat → Int) => XI G u ∧ ((a = 1 ∧ 0 ≤ x1 ∧ x1 ≤ 65535) ∨ (a = 0 ∧ ¬ (0 ≤ x1 ∧ x1 ≤ 65535))) ∧ FB (fun i k : Nat => (1 ≤ i ∧ i ≤ 19)) V u ∧ (f_s_seed x1 V J Rr) (a, u))) (w1 := (fun u : Nat → Nat → Int => XW cy ad u J Rr)) (a := 0) C hr rfl dX11_seed_12 (by decide) V rfl ⟨hI, (by omega), hB, hF _ rfl⟩
theorem hd_yX3_tellPerson : yX3_tellPerson.cls ≠ "java/lang/invoke/MethodHandle" ∧ yX3_tellPerson.cls ≠ "java/lang/invoke/VarHandle" ∧ (parseMethodDescriptor yX3_tellPerson.desc).map (fun d => d.parameters.length) = some 3 := by decide +kernel
theorem dX11_person_0 : decode cX11_person 0 = .ok (.iload_n 1, 1) := by decide +kernel
theorem dX11_person_1 : decode cX11_person 1 = .ok (.bipush 8, 2) := by decide +kernel
theorem dX11_person_3 : decode cX11_person 3 = .ok (.invokestatic 70, 3) := by decide +kernel
theorem dX11_person_6 : decode cX11_person 6 = .ok (.ifCond .eq 21, 3) := by decide +kernel
theorem dX11_person_9 : decode cX11_person 9 = .ok (.iload_n 2, 1) := by decide +kernel
theorem dX11_person_10 : decode cX11_person 10 = .ok (.iconst 0, 1) := by decide +kernel
theorem dX11_person_11 : decode cX11_person 11 = .ok (.bipush 10, 2) := by decide +kernel
theorem dX11_person_13 : decode cX11_person 13 = .ok (.invokestatic 74, 3) := by decide +kernel
theorem dX11_person_16 : decode cX11_person 16 = .ok (.ifCond .eq 11, 3) := by decide +kernel
theorem dX11_person_19 : decode cX11_person 19 = .ok (.iload_n 3, 1) := by decide +kernel
theorem dX11_person_20 : decode cX11_person 20 = .ok (.iconst 4, 1) := by decide +kernel
theorem dX11_person_21 : decode cX11_person 21 = .ok (.invokestatic 70, 3) := by decide +kernel
theorem dX11_person_24 : decode cX11_person 24 = .ok (.ifCond .ne 5, 3) := by decide +kernel
theorem dX11_person_27 : decode cX11_person 27 = .ok (.iconst 0, 1) := by decide +kernel
theorem dX11_person_28 : decode cX11_person 28 = .ok (.ireturn, 1) := by decide +kernel
theorem dX11_person_29 : decode cX11_person 29 = .ok (.aload_n 0, 1) := by decide +kernel
theorem dX11_person_30 : decode cX11_person 30 = .ok (.getfield 10, 3) := by decide +kernel
theorem dX11_person_33 : decode cX11_person 33 = .ok (.iload_n 1, 1) := by decide +kernel
theorem dX11_person_34 : decode cX11_person 34 = .ok (.iload_n 2, 1) := by decide +kernel
theorem dX11_person_35 : decode cX11_person 35 = .ok (.iload_n 3, 1) := by decide +kernel
theorem dX11_person_36 : decode cX11_person 36 = .ok (.invokevirtual 88, 3) := by decide +kernel
theorem dX11_person_39 : decode cX11_person 39 = .ok (.iconst 1, 1) := by decide +kernel
theorem dX11_person_40 : decode cX11_person 40 = .ok (.ireturn, 1) := by decide +kernel
set_option maxRecDepth 100000 in
def f_s_person (x1 : Int) (x2 : Int) (x3 : Int) (V : Nat → Nat → Int) (J : Nat → Nat → Int) (Rr : Nat → Nat → Nat) : (Int × (Nat → Nat → Int)) → Prop :=
  calR (f_s_isPlace x1 8) fun z1 => fct (0 ≤ z1 ∧ z1 ≤ 1) <| (if z1 = 0 then rtn (0, V) else calR (f_s_isWithin x2 0 10) fun z5 => fct (0 ≤ z5 ∧ z5 ≤ 1) <| (if z5 = 0 then rtn (0, V) else calR (f_s_isPlace x3 4) fun z9 => fct (0 ≤ z9 ∧ z9 ≤ 1) <| (if ¬ z9 = 0 then calUX (fun i k : Nat => (1 ≤ i ∧ i ≤ 1 + 18)) V (f_s_tellPerson 1 x1 x2 x3 V J Rr) fun V12 => rtn (1, V12) else rtn (0, V))))
set_option maxHeartbeats 8000000 in
set_option maxRecDepth 100000 in
theorem s_person (l : Launch) (D : va_G) (cy : Nat → ClassId) (ad : Nat → Nat) (G : Nat → Nat → Int) (V J : Nat → Nat → Int) (Rr : Nat → Nat → Nat) (hI : XI G V) (hJ : VJ J) (hR : XR Rr) (x1 : Int) (bx1 : -2147483648 ≤ x1 ∧ x1 ≤ 2147483647) (x2 : Int) (bx2 : -2147483648 ≤ x2 ∧ x2 ≤ 2147483647) (x3 : Int) (bx3 : -2147483648 ≤ x3 ∧ x3 ≤ 2147483647) : xMi l D (xTY cy) yX11_person cX11_person 4 (some .boolean) 1 24 0 0 [.ref (ad 0), vI x1, vI x2, vI x3] (XW cy ad V J Rr) (fun u : Nat → Nat → Int => XW cy ad u J Rr) (fun a (u : Nat → Nat → Int) => XI G u ∧ ((a = 1 ∧ 0 ≤ x1 ∧ x1 < 8 ∧ 0 ≤ x2 ∧ x2 ≤ 10 ∧ 0 ≤ x3 ∧ x3 < 4) ∨ (a = 0 ∧ ¬ (0 ≤ x1 ∧ x1 < 8 ∧ 0 ≤ x2 ∧ x2 ≤ 10 ∧ 0 ≤ x3 ∧ x3 < 4))) ∧ FB (fun i k : Nat => (1 ≤ i ∧ i ≤ 19)) V u ∧ (f_s_person x1 x2 x3 V J Rr) (a, u)) := by
  refine xMi.mk (lv0 := [(0, .ref (ad 0)), (1, vI x1), (2, vI x2), (3, vI x3)]) (by decide) rfl (Nat.le_of_ble_eq_true rfl) (fun p e s m below meth c A C hr hnm hAe => ?_)
  have C : xC2 p s m _ meth c D A s.heap 4 cX11_person RX11 (xTY cy) := C
  have hB : FB (fun i k : Nat => (1 ≤ i ∧ i ≤ 19)) V V := FB.rf _ _
  have hF := Imp.of_eq (f_s_person.eq_def x1 x2 x3 V J Rr)
  refine x_iload_n C.1 dX11_person_0 1 rfl ?_
  refine x_bipush C.1 (n := 8) dX11_person_1 ?_
  refine x_callSi C (As := [vI x1, vI 8]) (rest := []) (s_isPlace l D cy x1 ⟨by omega, by omega⟩ 8 ⟨by decide, by decide⟩) (l1 := []) (l2 := _) rfl (w2 := fun _ => _) (fun _ => rfl) rfl wm_yX11_isPlace wn_X11 wl_X11_70 wi_yX11_isPlace hd_yX11_isPlace rfl ⟨Nat.le_of_ble_eq_true rfl, Nat.le_of_ble_eq_true rfl⟩ (Nat.le_of_ble_eq_true rfl) ⟨Nat.le_of_ble_eq_true rfl, Nat.le_of_ble_eq_true rfl⟩ dX11_person_3 (fun z1 u1 bz1 h1 => ?_)
  obtain ⟨bq1, hx1_0, hFc1⟩ := h1
  replace hF := calR_i hF hFc1
  replace hF := hF.fc bq1
  refine x_if_eq C.1 (tgt := 27) dX11_person_6 (by decide) (by omega) (fun hc2 => ?_) (fun hc2 => ?_)
  · replace hF := hF.to (if_pos hc2)
    have hof3 := Sq.off hx1_0 (by omega)
    refine x_iconst C.1 (n := 0) dX11_person_27 ?_
    exact x_zret (S := (Nat → Nat → Int)) (post := (fun a (u : Nat → Nat → Int) => XI G u ∧ ((a = 1 ∧ 0 ≤ x1 ∧ x1 < 8 ∧ 0 ≤ x2 ∧ x2 ≤ 10 ∧ 0 ≤ x3 ∧ x3 < 4) ∨ (a = 0 ∧ ¬ (0 ≤ x1 ∧ x1 < 8 ∧ 0 ≤ x2 ∧ x2 ≤ 10 ∧ 0 ≤ x3 ∧ x3 < 4))) ∧ FB (fun i k : Nat => (1 ≤ i ∧ i ≤ 19)) V u ∧ (f_s_person x1 x2 x3 V J Rr) (a, u))) (w1 := (fun u : Nat → Nat → Int => XW cy ad u J Rr)) (a := 0) C hr rfl dX11_person_28 (by decide) V rfl ⟨hI, (by omega), hB, hF _ rfl⟩
  · replace hF := hF.to (if_neg hc2)
    have hon4 := Sq.on hx1_0 (by omega)
    refine x_iload_n C.1 dX11_person_9 2 rfl ?_
    refine x_iconst C.1 (n := 0) dX11_person_10 ?_
    refine x_bipush C.1 (n := 10) dX11_person_11 ?_
    refine x_callSi C (As := [vI x2, vI 0, vI 10]) (rest := []) (s_isWithin l D cy x2 ⟨by omega, by omega⟩ 0 ⟨by decide, by decide⟩ 10 ⟨by decide, by decide⟩) (l1 := []) (l2 := _) rfl (w2 := fun _ => _) (fun _ => rfl) rfl wm_yX11_isWithin wn_X11 wl_X11_74 wi_yX11_isWithin hd_yX11_isWithin rfl ⟨Nat.le_of_ble_eq_true rfl, Nat.le_of_ble_eq_true rfl⟩ (Nat.le_of_ble_eq_true rfl) ⟨Nat.le_of_ble_eq_true rfl, Nat.le_of_ble_eq_true rfl⟩ dX11_person_13 (fun z5 u5 bz5 h5 => ?_)
    obtain ⟨bq5, hx5_0, hFc5⟩ := h5
    replace hF := calR_i hF hFc5
    replace hF := hF.fc bq5
    refine x_if_eq C.1 (tgt := 27) dX11_person_16 (by decide) (by omega) (fun hc6 => ?_) (fun hc6 => ?_)
    · replace hF := hF.to (if_pos hc6)
      have hof7 := Sq.off hx5_0 (by omega)
      refine x_iconst C.1 (n := 0) dX11_person_27 ?_
      exact x_zret (S := (Nat → Nat → Int)) (post := (fun a (u : Nat → Nat → Int) => XI G u ∧ ((a = 1 ∧ 0 ≤ x1 ∧ x1 < 8 ∧ 0 ≤ x2 ∧ x2 ≤ 10 ∧ 0 ≤ x3 ∧ x3 < 4) ∨ (a = 0 ∧ ¬ (0 ≤ x1 ∧ x1 < 8 ∧ 0 ≤ x2 ∧ x2 ≤ 10 ∧ 0 ≤ x3 ∧ x3 < 4))) ∧ FB (fun i k : Nat => (1 ≤ i ∧ i ≤ 19)) V u ∧ (f_s_person x1 x2 x3 V J Rr) (a, u))) (w1 := (fun u : Nat → Nat → Int => XW cy ad u J Rr)) (a := 0) C hr rfl dX11_person_28 (by decide) V rfl ⟨hI, (by omega), hB, hF _ rfl⟩
    · replace hF := hF.to (if_neg hc6)
      have hon8 := Sq.on hx5_0 (by omega)
      refine x_iload_n C.1 dX11_person_19 3 rfl ?_
      refine x_iconst C.1 (n := 4) dX11_person_20 ?_
      refine x_callSi C (As := [vI x3, vI 4]) (rest := []) (s_isPlace l D cy x3 ⟨by omega, by omega⟩ 4 ⟨by decide, by decide⟩) (l1 := []) (l2 := _) rfl (w2 := fun _ => _) (fun _ => rfl) rfl wm_yX11_isPlace wn_X11 wl_X11_70 wi_yX11_isPlace hd_yX11_isPlace rfl ⟨Nat.le_of_ble_eq_true rfl, Nat.le_of_ble_eq_true rfl⟩ (Nat.le_of_ble_eq_true rfl) ⟨Nat.le_of_ble_eq_true rfl, Nat.le_of_ble_eq_true rfl⟩ dX11_person_21 (fun z9 u9 bz9 h9 => ?_)
      obtain ⟨bq9, hx9_0, hFc9⟩ := h9
      replace hF := calR_i hF hFc9
      replace hF := hF.fc bq9
      refine x_if_ne C.1 (tgt := 29) dX11_person_24 (by decide) (by omega) (fun hc10 => ?_) (fun hc10 => ?_)
      · replace hF := hF.to (if_pos hc10)
        have hon11 := Sq.on hx9_0 (by omega)
        refine x_aload_n C.1 dX11_person_29 0 rfl ?_
        refine x_getA C (N := 129) (i := 0) (by decide) rfl vc_X11 wx_X11 0 (by decide) wf_X11_10 (a := 1) rfl dX11_person_30 ?_
        refine x_iload_n C.1 dX11_person_33 1 rfl ?_
        refine x_iload_n C.1 dX11_person_34 2 rfl ?_
        refine x_iload_n C.1 dX11_person_35 3 rfl ?_
        refine x_callVv C (As := [vI x1, vI x2, vI x3]) (rest := []) 1 (xw_at (N := 129) (i := 1) (by omega) (xd_L (Or.inl rfl))) vc_X3 (s_tellPerson l D cy ad G V J Rr hI hJ hR 1 (Or.inl rfl) x1 ⟨by omega, by omega⟩ x2 ⟨by omega, by omega⟩ x3 ⟨by omega, by omega⟩) (l1 := []) (l2 := []) (List.append_nil _).symm (w2 := fun u : Nat → Nat → Int => XW cy ad u J Rr) (fun _ => List.append_nil _) rfl wm_yX3_tellPerson wn_X3 wl_X11_88 wi_yX3_tellPerson we_yX3_tellPerson hd_yX3_tellPerson rfl ⟨Nat.le_of_ble_eq_true rfl, Nat.le_of_ble_eq_true rfl⟩ (Nat.le_of_ble_eq_true rfl) ⟨Nat.le_of_ble_eq_true rfl, Nat.le_of_ble_eq_true rfl⟩ dX11_person_36 (fun V12 h12 => ?_)
        obtain ⟨hI12, hBc12, hFc12⟩ := h12
        replace hF := calUX_i hF hFc12 hBc12
        have hB12 := hB.tr hBc12 (fun i k h => (⟨by omega, by omega⟩))
        refine x_iconst C.1 (n := 1) dX11_person_39 ?_
        exact x_zret (S := (Nat → Nat → Int)) (post := (fun a (u : Nat → Nat → Int) => XI G u ∧ ((a = 1 ∧ 0 ≤ x1 ∧ x1 < 8 ∧ 0 ≤ x2 ∧ x2 ≤ 10 ∧ 0 ≤ x3 ∧ x3 < 4) ∨ (a = 0 ∧ ¬ (0 ≤ x1 ∧ x1 < 8 ∧ 0 ≤ x2 ∧ x2 ≤ 10 ∧ 0 ≤ x3 ∧ x3 < 4))) ∧ FB (fun i k : Nat => (1 ≤ i ∧ i ≤ 19)) V u ∧ (f_s_person x1 x2 x3 V J Rr) (a, u))) (w1 := (fun u : Nat → Nat → Int => XW cy ad u J Rr)) (a := 1) C hr rfl dX11_person_40 (by decide) V12 rfl ⟨hI12, (by omega), hB12, hF _ rfl⟩
      · replace hF := hF.to (if_neg (fun hh => hh hc10))
        have hof13 := Sq.off hx9_0 (by omega)
        refine x_iconst C.1 (n := 0) dX11_person_27 ?_
        exact x_zret (S := (Nat → Nat → Int)) (post := (fun a (u : Nat → Nat → Int) => XI G u ∧ ((a = 1 ∧ 0 ≤ x1 ∧ x1 < 8 ∧ 0 ≤ x2 ∧ x2 ≤ 10 ∧ 0 ≤ x3 ∧ x3 < 4) ∨ (a = 0 ∧ ¬ (0 ≤ x1 ∧ x1 < 8 ∧ 0 ≤ x2 ∧ x2 ≤ 10 ∧ 0 ≤ x3 ∧ x3 < 4))) ∧ FB (fun i k : Nat => (1 ≤ i ∧ i ≤ 19)) V u ∧ (f_s_person x1 x2 x3 V J Rr) (a, u))) (w1 := (fun u : Nat → Nat → Int => XW cy ad u J Rr)) (a := 0) C hr rfl dX11_person_28 (by decide) V rfl ⟨hI, (by omega), hB, hF _ rfl⟩
theorem dX11_pour_0 : decode cX11_pour 0 = .ok (.aload_n 0, 1) := by decide +kernel
theorem dX11_pour_1 : decode cX11_pour 1 = .ok (.getfield 10, 3) := by decide +kernel
theorem dX11_pour_4 : decode cX11_pour 4 = .ok (.iload_n 1, 1) := by decide +kernel
theorem dX11_pour_5 : decode cX11_pour 5 = .ok (.invokevirtual 103, 3) := by decide +kernel
theorem dX11_pour_8 : decode cX11_pour 8 = .ok (.ifCond .eq 13, 3) := by decide +kernel
theorem dX11_pour_11 : decode cX11_pour 11 = .ok (.iload_n 2, 1) := by decide +kernel
theorem dX11_pour_12 : decode cX11_pour 12 = .ok (.iconst 0, 1) := by decide +kernel
theorem dX11_pour_13 : decode cX11_pour 13 = .ok (.bipush 24, 2) := by decide +kernel
theorem dX11_pour_15 : decode cX11_pour 15 = .ok (.invokestatic 74, 3) := by decide +kernel
theorem dX11_pour_18 : decode cX11_pour 18 = .ok (.ifCond .ne 5, 3) := by decide +kernel
theorem dX11_pour_21 : decode cX11_pour 21 = .ok (.iconst (-1), 1) := by decide +kernel
theorem dX11_pour_22 : decode cX11_pour 22 = .ok (.ireturn, 1) := by decide +kernel
theorem dX11_pour_23 : decode cX11_pour 23 = .ok (.aload_n 0, 1) := by decide +kernel
theorem dX11_pour_24 : decode cX11_pour 24 = .ok (.getfield 10, 3) := by decide +kernel
theorem dX11_pour_27 : decode cX11_pour 27 = .ok (.getfield 78, 3) := by decide +kernel
theorem dX11_pour_30 : decode cX11_pour 30 = .ok (.iload_n 1, 1) := by decide +kernel
theorem dX11_pour_31 : decode cX11_pour 31 = .ok (.aaload, 1) := by decide +kernel
theorem dX11_pour_32 : decode cX11_pour 32 = .ok (.iload_n 2, 1) := by decide +kernel
theorem dX11_pour_33 : decode cX11_pour 33 = .ok (.invokevirtual 106, 3) := by decide +kernel
theorem dX11_pour_36 : decode cX11_pour 36 = .ok (.pop, 1) := by decide +kernel
theorem dX11_pour_37 : decode cX11_pour 37 = .ok (.aload_n 0, 1) := by decide +kernel
theorem dX11_pour_38 : decode cX11_pour 38 = .ok (.getfield 10, 3) := by decide +kernel
theorem dX11_pour_41 : decode cX11_pour 41 = .ok (.getfield 78, 3) := by decide +kernel
theorem dX11_pour_44 : decode cX11_pour 44 = .ok (.iload_n 1, 1) := by decide +kernel
theorem dX11_pour_45 : decode cX11_pour 45 = .ok (.aaload, 1) := by decide +kernel
theorem dX11_pour_46 : decode cX11_pour 46 = .ok (.getfield 110, 3) := by decide +kernel
theorem dX11_pour_49 : decode cX11_pour 49 = .ok (.ireturn, 1) := by decide +kernel
set_option maxRecDepth 100000 in
def f_s_pour (x1 : Int) (x2 : Int) (V : Nat → Nat → Int) (J : Nat → Nat → Int) (Rr : Nat → Nat → Nat) : (Int × (Nat → Nat → Int)) → Prop :=
  calR (f_s_isAlive 1 x1 V J Rr) fun z1 => fct (0 ≤ z1 ∧ z1 ≤ 1) <| (if z1 = 0 then rtn ((-1), V) else calR (f_s_isWithin x2 0 24) fun z4 => fct (0 ≤ z4 ∧ z4 ≤ 1) <| (if ¬ z4 = 0 then rdb (1 + 3 + 2 * x1.toNat) fun c7 => calVX (fun i k : Nat => (c7 ≤ i ∧ i ≤ c7 + 1)) V (f_s_wetBy c7 x2 V J Rr) fun z8 V8 => rdb (V8 c7 2) fun z9 => rtn (z9, V8) else rtn ((-1), V)))
set_option maxHeartbeats 8000000 in
set_option maxRecDepth 100000 in
theorem s_pour (l : Launch) (D : va_G) (cy : Nat → ClassId) (ad : Nat → Nat) (G : Nat → Nat → Int) (V J : Nat → Nat → Int) (Rr : Nat → Nat → Nat) (hI : XI G V) (hJ : VJ J) (hR : XR Rr) (x1 : Int) (bx1 : -2147483648 ≤ x1 ∧ x1 ≤ 2147483647) (x2 : Int) (bx2 : -2147483648 ≤ x2 ∧ x2 ≤ 2147483647) : xMi l D (xTY cy) yX11_pour cX11_pour 3 (some .int) 3 63 0 0 [.ref (ad 0), vI x1, vI x2] (XW cy ad V J Rr) (fun u : Nat → Nat → Int => XW cy ad u J Rr) (fun a (u : Nat → Nat → Int) => XI G u ∧ FB (fun i k : Nat => (1 ≤ i ∧ i ≤ 19)) V u ∧ (f_s_pour x1 x2 V J Rr) (a, u)) := by
  refine xMi.mk (lv0 := [(0, .ref (ad 0)), (1, vI x1), (2, vI x2)]) (by decide) rfl (Nat.le_of_ble_eq_true rfl) (fun p e s m below meth c A C hr hnm hAe => ?_)
  have C : xC2 p s m _ meth c D A s.heap 3 cX11_pour RX11 (xTY cy) := C
  have hB : FB (fun i k : Nat => (1 ≤ i ∧ i ≤ 19)) V V := FB.rf _ _
  have hF := Imp.of_eq (f_s_pour.eq_def x1 x2 V J Rr)
  refine x_aload_n C.1 dX11_pour_0 0 rfl ?_
  refine x_getA C (N := 129) (i := 0) (by decide) rfl vc_X11 wx_X11 0 (by decide) wf_X11_10 (a := 1) rfl dX11_pour_1 ?_
  refine x_iload_n C.1 dX11_pour_4 1 rfl ?_
  refine x_callVi C (As := [vI x1]) (rest := []) 1 (xw_at (N := 129) (i := 1) (by omega) (xd_L (Or.inl rfl))) vc_X3 (s_isAlive l D cy ad G V J Rr hI hJ hR 1 (Or.inl rfl) x1 ⟨by omega, by omega⟩) (l1 := []) (l2 := []) (List.append_nil _).symm (w2 := fun _ => XW cy ad V J Rr) (fun _ => List.append_nil _) rfl wm_yX3_isAlive wn_X3 wl_X11_103 wi_yX3_isAlive we_yX3_isAlive hd_yX3_isAlive rfl ⟨Nat.le_of_ble_eq_true rfl, Nat.le_of_ble_eq_true rfl⟩ (Nat.le_of_ble_eq_true rfl) ⟨Nat.le_of_ble_eq_true rfl, Nat.le_of_ble_eq_true rfl⟩ dX11_pour_5 (fun z1 u1 bz1 h1 => ?_)
  obtain ⟨hon1, hFc1⟩ := h1
  replace hF := calR_i hF hFc1
  replace hF := hF.fc hon1.r
  have bq1 := Sp.r hon1
  refine x_if_eq C.1 (tgt := 21) dX11_pour_8 (by decide) (by omega) (fun hc2 => ?_) (fun hc2 => ?_)
  · replace hF := hF.to (if_pos hc2)
    refine x_iconst C.1 (n := -1) dX11_pour_21 ?_
    exact x_iret (S := (Nat → Nat → Int)) (post := (fun a (u : Nat → Nat → Int) => XI G u ∧ FB (fun i k : Nat => (1 ≤ i ∧ i ≤ 19)) V u ∧ (f_s_pour x1 x2 V J Rr) (a, u))) (w1 := (fun u : Nat → Nat → Int => XW cy ad u J Rr)) (a := (-1)) C hr rfl dX11_pour_22 (by decide) V rfl ⟨hI, hB, hF _ rfl⟩
  · replace hF := hF.to (if_neg hc2)
    have hon3 := Sp.on hon1 (by omega)
    refine x_iload_n C.1 dX11_pour_11 2 rfl ?_
    refine x_iconst C.1 (n := 0) dX11_pour_12 ?_
    refine x_bipush C.1 (n := 24) dX11_pour_13 ?_
    refine x_callSi C (As := [vI x2, vI 0, vI 24]) (rest := []) (s_isWithin l D cy x2 ⟨by omega, by omega⟩ 0 ⟨by decide, by decide⟩ 24 ⟨by decide, by decide⟩) (l1 := []) (l2 := _) rfl (w2 := fun _ => _) (fun _ => rfl) rfl wm_yX11_isWithin wn_X11 wl_X11_74 wi_yX11_isWithin hd_yX11_isWithin rfl ⟨Nat.le_of_ble_eq_true rfl, Nat.le_of_ble_eq_true rfl⟩ (Nat.le_of_ble_eq_true rfl) ⟨Nat.le_of_ble_eq_true rfl, Nat.le_of_ble_eq_true rfl⟩ dX11_pour_15 (fun z4 u4 bz4 h4 => ?_)
    obtain ⟨bq4, hx4_0, hFc4⟩ := h4
    replace hF := calR_i hF hFc4
    replace hF := hF.fc bq4
    refine x_if_ne C.1 (tgt := 23) dX11_pour_18 (by decide) (by omega) (fun hc5 => ?_) (fun hc5 => ?_)
    · replace hF := hF.to (if_pos hc5)
      have hon6 := Sq.on hx4_0 (by omega)
      refine x_aload_n C.1 dX11_pour_23 0 rfl ?_
      refine x_getA C (N := 129) (i := 0) (by decide) rfl vc_X11 wx_X11 0 (by decide) wf_X11_10 (a := 1) rfl dX11_pour_24 ?_
      refine x_getA C (N := 129) (i := 1) (by omega) (xd_L (Or.inl rfl)) vc_X3 wx_X3 0 (by decide) wf_X11_78 (a := 2) rfl dX11_pour_27 ?_
      refine x_iload_n C.1 dX11_pour_30 1 rfl ?_
      obtain ⟨c7, ec7, hc7⟩ : ∃ cx : Nat, 1 + 3 + 2 * x1.toNat = cx ∧ isPl cx := ⟨_, rfl, isPl_L (Or.inl rfl) (by omega)⟩
      replace hF := hF.to (rdb_e (z := c7) ec7)
      refine x_aldS C (N := 129) (i := 2) (q := x1) (t := 4) rfl (by omega) (xd_La (Or.inl rfl)) (by omega) (by decide) dX11_pour_31 (a := c7) ec7 ?_
      refine x_iload_n C.1 dX11_pour_32 2 rfl ?_
      refine x_callVi C (As := [vI x2]) (rest := []) c7 (xw_at (N := 129) (i := c7) (Nat.lt_of_succ_lt hc7.1) hc7.2.1) vc_X5 (s_wetBy l D cy ad G V J Rr hI hJ hR c7 hc7 x2 ⟨by omega, by omega⟩) (l1 := []) (l2 := []) (List.append_nil _).symm (w2 := fun u : Nat → Nat → Int => XW cy ad u J Rr) (fun _ => List.append_nil _) rfl wm_yX5_wetBy wn_X5 wl_X11_106 wi_yX5_wetBy we_yX5_wetBy hd_yX5_wetBy rfl ⟨Nat.le_of_ble_eq_true rfl, Nat.le_of_ble_eq_true rfl⟩ (Nat.le_of_ble_eq_true rfl) ⟨Nat.le_of_ble_eq_true rfl, Nat.le_of_ble_eq_true rfl⟩ dX11_pour_33 (fun z8 V8 bz8 h8 => ?_)
      obtain ⟨hI8, hBc8, hFc8⟩ := h8
      replace hF := calVX_i hF hFc8 hBc8
      have hB8 := hB.tr hBc8 (fun i k h => (⟨by omega, by omega⟩))
      refine x_pop C.1 dX11_pour_36 rfl ?_
      refine x_aload_n C.1 dX11_pour_37 0 rfl ?_
      refine x_getA C (N := 129) (i := 0) (by decide) rfl vc_X11 wx_X11 0 (by decide) wf_X11_10 (a := 1) rfl dX11_pour_38 ?_
      refine x_getA C (N := 129) (i := 1) (by omega) (xd_L (Or.inl rfl)) vc_X3 wx_X3 0 (by decide) wf_X11_78 (a := 2) rfl dX11_pour_41 ?_
      refine x_iload_n C.1 dX11_pour_44 1 rfl ?_
      refine x_aldS C (N := 129) (i := 2) (q := x1) (t := 4) rfl (by omega) (xd_La (Or.inl rfl)) (by omega) (by decide) dX11_pour_45 (a := c7) ec7 ?_
      obtain ⟨z9, ez9, bz9⟩ := hI8.rd c7 2 (x := -2147483648) (y := 2147483647) (rg_P hc7 2)
      replace hF := hF.to (rdb_e (z := z9) ez9)
      refine x_getI C (N := 129) (i := c7) (Nat.lt_of_succ_lt hc7.1) hc7.2.1 vc_X5 wx_X5 2 (by decide) wf_X11_110 rfl dX11_pour_46 (a := z9) ez9 ?_
      exact x_iret (S := (Nat → Nat → Int)) (post := (fun a (u : Nat → Nat → Int) => XI G u ∧ FB (fun i k : Nat => (1 ≤ i ∧ i ≤ 19)) V u ∧ (f_s_pour x1 x2 V J Rr) (a, u))) (w1 := (fun u : Nat → Nat → Int => XW cy ad u J Rr)) (a := z9) C hr rfl dX11_pour_49 (by omega) V8 rfl ⟨hI8, hB8, hF _ rfl⟩
    · replace hF := hF.to (if_neg (fun hh => hh hc5))
      refine x_iconst C.1 (n := -1) dX11_pour_21 ?_
      exact x_iret (S := (Nat → Nat → Int)) (post := (fun a (u : Nat → Nat → Int) => XI G u ∧ FB (fun i k : Nat => (1 ≤ i ∧ i ≤ 19)) V u ∧ (f_s_pour x1 x2 V J Rr) (a, u))) (w1 := (fun u : Nat → Nat → Int => XW cy ad u J Rr)) (a := (-1)) C hr rfl dX11_pour_22 (by decide) V rfl ⟨hI, hB, hF _ rfl⟩
theorem hd_yX8_add : yX8_add.cls ≠ "java/lang/invoke/MethodHandle" ∧ yX8_add.cls ≠ "java/lang/invoke/VarHandle" ∧ (parseMethodDescriptor yX8_add.desc).map (fun d => d.parameters.length) = some 1 := by decide +kernel
theorem hd_yX8_hasRoom : yX8_hasRoom.cls ≠ "java/lang/invoke/MethodHandle" ∧ yX8_hasRoom.cls ≠ "java/lang/invoke/VarHandle" ∧ (parseMethodDescriptor yX8_hasRoom.desc).map (fun d => d.parameters.length) = some 1 := by decide +kernel
theorem dX11_feed_0 : decode cX11_feed 0 = .ok (.aload_n 0, 1) := by decide +kernel
theorem dX11_feed_1 : decode cX11_feed 1 = .ok (.getfield 25, 3) := by decide +kernel
theorem dX11_feed_4 : decode cX11_feed 4 = .ok (.bipush 20, 2) := by decide +kernel
theorem dX11_feed_6 : decode cX11_feed 6 = .ok (.invokevirtual 113, 3) := by decide +kernel
theorem dX11_feed_9 : decode cX11_feed 9 = .ok (.ifCond .ne 5, 3) := by decide +kernel
theorem dX11_feed_12 : decode cX11_feed 12 = .ok (.iconst (-1), 1) := by decide +kernel
theorem dX11_feed_13 : decode cX11_feed 13 = .ok (.ireturn, 1) := by decide +kernel
theorem dX11_feed_14 : decode cX11_feed 14 = .ok (.aload_n 0, 1) := by decide +kernel
theorem dX11_feed_15 : decode cX11_feed 15 = .ok (.getfield 25, 3) := by decide +kernel
theorem dX11_feed_18 : decode cX11_feed 18 = .ok (.iload_n 1, 1) := by decide +kernel
theorem dX11_feed_19 : decode cX11_feed 19 = .ok (.invokevirtual 116, 3) := by decide +kernel
theorem dX11_feed_22 : decode cX11_feed 22 = .ok (.aload_n 0, 1) := by decide +kernel
theorem dX11_feed_23 : decode cX11_feed 23 = .ok (.getfield 25, 3) := by decide +kernel
theorem dX11_feed_26 : decode cX11_feed 26 = .ok (.iload_n 2, 1) := by decide +kernel
theorem dX11_feed_27 : decode cX11_feed 27 = .ok (.invokevirtual 116, 3) := by decide +kernel
theorem dX11_feed_30 : decode cX11_feed 30 = .ok (.aload_n 0, 1) := by decide +kernel
theorem dX11_feed_31 : decode cX11_feed 31 = .ok (.getfield 25, 3) := by decide +kernel
theorem dX11_feed_34 : decode cX11_feed 34 = .ok (.iload_n 3, 1) := by decide +kernel
theorem dX11_feed_35 : decode cX11_feed 35 = .ok (.invokevirtual 116, 3) := by decide +kernel
theorem dX11_feed_38 : decode cX11_feed 38 = .ok (.aload_n 0, 1) := by decide +kernel
theorem dX11_feed_39 : decode cX11_feed 39 = .ok (.getfield 25, 3) := by decide +kernel
theorem dX11_feed_42 : decode cX11_feed 42 = .ok (.iload 4, 2) := by decide +kernel
theorem dX11_feed_44 : decode cX11_feed 44 = .ok (.invokevirtual 116, 3) := by decide +kernel
theorem dX11_feed_47 : decode cX11_feed 47 = .ok (.aload_n 0, 1) := by decide +kernel
theorem dX11_feed_48 : decode cX11_feed 48 = .ok (.getfield 25, 3) := by decide +kernel
theorem dX11_feed_51 : decode cX11_feed 51 = .ok (.iload 5, 2) := by decide +kernel
theorem dX11_feed_53 : decode cX11_feed 53 = .ok (.invokevirtual 116, 3) := by decide +kernel
theorem dX11_feed_56 : decode cX11_feed 56 = .ok (.aload_n 0, 1) := by decide +kernel
theorem dX11_feed_57 : decode cX11_feed 57 = .ok (.getfield 25, 3) := by decide +kernel
theorem dX11_feed_60 : decode cX11_feed 60 = .ok (.getfield 120, 3) := by decide +kernel
theorem dX11_feed_63 : decode cX11_feed 63 = .ok (.ireturn, 1) := by decide +kernel
set_option maxRecDepth 100000 in
def f_s_feed (x1 : Int) (x2 : Int) (x3 : Int) (x4 : Int) (x5 : Int) (V : Nat → Nat → Int) (J : Nat → Nat → Int) (Rr : Nat → Nat → Nat) : (Int × (Nat → Nat → Int)) → Prop :=
  calR (f_s_hasRoom 20 V J Rr) fun z1 => fct (0 ≤ z1 ∧ z1 ≤ 1) <| (if ¬ z1 = 0 then calUX (fun i k : Nat => (58 ≤ i ∧ i ≤ 59)) V (f_s_add x1 V J Rr) fun V3 => calUX (fun i k : Nat => (58 ≤ i ∧ i ≤ 59)) V3 (f_s_add x2 V3 J Rr) fun V4 => calUX (fun i k : Nat => (58 ≤ i ∧ i ≤ 59)) V4 (f_s_add x3 V4 J Rr) fun V5 => calUX (fun i k : Nat => (58 ≤ i ∧ i ≤ 59)) V5 (f_s_add x4 V5 J Rr) fun V6 => calUX (fun i k : Nat => (58 ≤ i ∧ i ≤ 59)) V6 (f_s_add x5 V6 J Rr) fun V7 => rdb (V7 58 1) fun z8 => fct (0 ≤ z8 ∧ z8 ≤ 220) <| rtn (z8, V7) else rtn ((-1), V))
set_option maxHeartbeats 8000000 in
set_option maxRecDepth 100000 in
theorem s_feed (l : Launch) (D : va_G) (cy : Nat → ClassId) (ad : Nat → Nat) (G : Nat → Nat → Int) (V J : Nat → Nat → Int) (Rr : Nat → Nat → Nat) (hI : XI G V) (hJ : VJ J) (hR : XR Rr) (x1 : Int) (bx1 : -2147483648 ≤ x1 ∧ x1 ≤ 2147483647) (x2 : Int) (bx2 : -2147483648 ≤ x2 ∧ x2 ≤ 2147483647) (x3 : Int) (bx3 : -2147483648 ≤ x3 ∧ x3 ≤ 2147483647) (x4 : Int) (bx4 : -2147483648 ≤ x4 ∧ x4 ≤ 2147483647) (x5 : Int) (bx5 : -2147483648 ≤ x5 ∧ x5 ≤ 2147483647) : xMi l D (xTY cy) yX11_feed cX11_feed 6 (some .int) 1 22 0 0 [.ref (ad 0), vI x1, vI x2, vI x3, vI x4, vI x5] (XW cy ad V J Rr) (fun u : Nat → Nat → Int => XW cy ad u J Rr) (fun a (u : Nat → Nat → Int) => XI G u ∧ FB (fun i k : Nat => (58 ≤ i ∧ i ≤ 59)) V u ∧ (f_s_feed x1 x2 x3 x4 x5 V J Rr) (a, u)) := by
  refine xMi.mk (lv0 := [(0, .ref (ad 0)), (1, vI x1), (2, vI x2), (3, vI x3), (4, vI x4), (5, vI x5)]) (by decide) rfl (Nat.le_of_ble_eq_true rfl) (fun p e s m below meth c A C hr hnm hAe => ?_)
  have C : xC2 p s m _ meth c D A s.heap 6 cX11_feed RX11 (xTY cy) := C
  have hB : FB (fun i k : Nat => (58 ≤ i ∧ i ≤ 59)) V V := FB.rf _ _
  have hF := Imp.of_eq (f_s_feed.eq_def x1 x2 x3 x4 x5 V J Rr)
  refine x_aload_n C.1 dX11_feed_0 0 rfl ?_
  refine x_getA C (N := 129) (i := 0) (by decide) rfl vc_X11 wx_X11 4 (by decide) wf_X11_25 (a := 58) rfl dX11_feed_1 ?_
  refine x_bipush C.1 (n := 20) dX11_feed_4 ?_
  refine x_callVi C (As := [vI 20]) (rest := []) 58 (xw_at (N := 129) (i := 58) (by decide) rfl) vc_X8 (s_hasRoom l D cy ad G V J Rr hI hJ hR 20 ⟨by decide, by decide⟩) (l1 := []) (l2 := []) (List.append_nil _).symm (w2 := fun _ => XW cy ad V J Rr) (fun _ => List.append_nil _) rfl wm_yX8_hasRoom wn_X8 wl_X11_113 wi_yX8_hasRoom we_yX8_hasRoom hd_yX8_hasRoom rfl ⟨Nat.le_of_ble_eq_true rfl, Nat.le_of_ble_eq_true rfl⟩ (Nat.le_of_ble_eq_true rfl) ⟨Nat.le_of_ble_eq_true rfl, Nat.le_of_ble_eq_true rfl⟩ dX11_feed_6 (fun z1 u1 bz1 h1 => ?_)
  obtain ⟨bq1, hFc1⟩ := h1
  replace hF := calR_i hF hFc1
  replace hF := hF.fc bq1
  refine x_if_ne C.1 (tgt := 14) dX11_feed_9 (by decide) (by omega) (fun hc2 => ?_) (fun hc2 => ?_)
  · replace hF := hF.to (if_pos hc2)
    refine x_aload_n C.1 dX11_feed_14 0 rfl ?_
    refine x_getA C (N := 129) (i := 0) (by decide) rfl vc_X11 wx_X11 4 (by decide) wf_X11_25 (a := 58) rfl dX11_feed_15 ?_
    refine x_iload_n C.1 dX11_feed_18 1 rfl ?_
    refine x_callVv C (As := [vI x1]) (rest := []) 58 (xw_at (N := 129) (i := 58) (by decide) rfl) vc_X8 (s_add l D cy ad G V J Rr hI hJ hR x1 ⟨by omega, by omega⟩) (l1 := []) (l2 := []) (List.append_nil _).symm (w2 := fun u : Nat → Nat → Int => XW cy ad u J Rr) (fun _ => List.append_nil _) rfl wm_yX8_add wn_X8 wl_X11_116 wi_yX8_add we_yX8_add hd_yX8_add rfl ⟨Nat.le_of_ble_eq_true rfl, Nat.le_of_ble_eq_true rfl⟩ (Nat.le_of_ble_eq_true rfl) ⟨Nat.le_of_ble_eq_true rfl, Nat.le_of_ble_eq_true rfl⟩ dX11_feed_19 (fun V3 h3 => ?_)
    obtain ⟨hI3, hBc3, hFc3⟩ := h3
    replace hF := calUX_i hF hFc3 hBc3
    have hB3 := hB.tr hBc3 (fun i k h => (h))
    refine x_aload_n C.1 dX11_feed_22 0 rfl ?_
    refine x_getA C (N := 129) (i := 0) (by decide) rfl vc_X11 wx_X11 4 (by decide) wf_X11_25 (a := 58) rfl dX11_feed_23 ?_
    refine x_iload_n C.1 dX11_feed_26 2 rfl ?_
    refine x_callVv C (As := [vI x2]) (rest := []) 58 (xw_at (N := 129) (i := 58) (by decide) rfl) vc_X8 (s_add l D cy ad G V3 J Rr hI3 hJ hR x2 ⟨by omega, by omega⟩) (l1 := []) (l2 := []) (List.append_nil _).symm (w2 := fun u : Nat → Nat → Int => XW cy ad u J Rr) (fun _ => List.append_nil _) rfl wm_yX8_add wn_X8 wl_X11_116 wi_yX8_add we_yX8_add hd_yX8_add rfl ⟨Nat.le_of_ble_eq_true rfl, Nat.le_of_ble_eq_true rfl⟩ (Nat.le_of_ble_eq_true rfl) ⟨Nat.le_of_ble_eq_true rfl, Nat.le_of_ble_eq_true rfl⟩ dX11_feed_27 (fun V4 h4 => ?_)
    obtain ⟨hI4, hBc4, hFc4⟩ := h4
    replace hF := calUX_i hF hFc4 hBc4
    have hB4 := hB3.tr hBc4 (fun i k h => (h))
    refine x_aload_n C.1 dX11_feed_30 0 rfl ?_
    refine x_getA C (N := 129) (i := 0) (by decide) rfl vc_X11 wx_X11 4 (by decide) wf_X11_25 (a := 58) rfl dX11_feed_31 ?_
    refine x_iload_n C.1 dX11_feed_34 3 rfl ?_
    refine x_callVv C (As := [vI x3]) (rest := []) 58 (xw_at (N := 129) (i := 58) (by decide) rfl) vc_X8 (s_add l D cy ad G V4 J Rr hI4 hJ hR x3 ⟨by omega, by omega⟩) (l1 := []) (l2 := []) (List.append_nil _).symm (w2 := fun u : Nat → Nat → Int => XW cy ad u J Rr) (fun _ => List.append_nil _) rfl wm_yX8_add wn_X8 wl_X11_116 wi_yX8_add we_yX8_add hd_yX8_add rfl ⟨Nat.le_of_ble_eq_true rfl, Nat.le_of_ble_eq_true rfl⟩ (Nat.le_of_ble_eq_true rfl) ⟨Nat.le_of_ble_eq_true rfl, Nat.le_of_ble_eq_true rfl⟩ dX11_feed_35 (fun V5 h5 => ?_)
    obtain ⟨hI5, hBc5, hFc5⟩ := h5
    replace hF := calUX_i hF hFc5 hBc5
    have hB5 := hB4.tr hBc5 (fun i k h => (h))
    refine x_aload_n C.1 dX11_feed_38 0 rfl ?_
    refine x_getA C (N := 129) (i := 0) (by decide) rfl vc_X11 wx_X11 4 (by decide) wf_X11_25 (a := 58) rfl dX11_feed_39 ?_
    refine x_iload C.1 dX11_feed_42 4 rfl ?_
    refine x_callVv C (As := [vI x4]) (rest := []) 58 (xw_at (N := 129) (i := 58) (by decide) rfl) vc_X8 (s_add l D cy ad G V5 J Rr hI5 hJ hR x4 ⟨by omega, by omega⟩) (l1 := []) (l2 := []) (List.append_nil _).symm (w2 := fun u : Nat → Nat → Int => XW cy ad u J Rr) (fun _ => List.append_nil _) rfl wm_yX8_add wn_X8 wl_X11_116 wi_yX8_add we_yX8_add hd_yX8_add rfl ⟨Nat.le_of_ble_eq_true rfl, Nat.le_of_ble_eq_true rfl⟩ (Nat.le_of_ble_eq_true rfl) ⟨Nat.le_of_ble_eq_true rfl, Nat.le_of_ble_eq_true rfl⟩ dX11_feed_44 (fun V6 h6 => ?_)
    obtain ⟨hI6, hBc6, hFc6⟩ := h6
    replace hF := calUX_i hF hFc6 hBc6
    have hB6 := hB5.tr hBc6 (fun i k h => (h))
    refine x_aload_n C.1 dX11_feed_47 0 rfl ?_
    refine x_getA C (N := 129) (i := 0) (by decide) rfl vc_X11 wx_X11 4 (by decide) wf_X11_25 (a := 58) rfl dX11_feed_48 ?_
    refine x_iload C.1 dX11_feed_51 5 rfl ?_
    refine x_callVv C (As := [vI x5]) (rest := []) 58 (xw_at (N := 129) (i := 58) (by decide) rfl) vc_X8 (s_add l D cy ad G V6 J Rr hI6 hJ hR x5 ⟨by omega, by omega⟩) (l1 := []) (l2 := []) (List.append_nil _).symm (w2 := fun u : Nat → Nat → Int => XW cy ad u J Rr) (fun _ => List.append_nil _) rfl wm_yX8_add wn_X8 wl_X11_116 wi_yX8_add we_yX8_add hd_yX8_add rfl ⟨Nat.le_of_ble_eq_true rfl, Nat.le_of_ble_eq_true rfl⟩ (Nat.le_of_ble_eq_true rfl) ⟨Nat.le_of_ble_eq_true rfl, Nat.le_of_ble_eq_true rfl⟩ dX11_feed_53 (fun V7 h7 => ?_)
    obtain ⟨hI7, hBc7, hFc7⟩ := h7
    replace hF := calUX_i hF hFc7 hBc7
    have hB7 := hB6.tr hBc7 (fun i k h => (h))
    refine x_aload_n C.1 dX11_feed_56 0 rfl ?_
    refine x_getA C (N := 129) (i := 0) (by decide) rfl vc_X11 wx_X11 4 (by decide) wf_X11_25 (a := 58) rfl dX11_feed_57 ?_
    obtain ⟨z8, ez8, bz8⟩ := hI7.rd 58 1 (x := 0) (y := 220) rfl
    replace hF := hF.to (rdb_e (z := z8) ez8)
    replace hF := hF.fc bz8
    refine x_getI C (N := 129) (i := 58) (by decide) rfl vc_X8 wx_X8 1 (by decide) wf_X11_120 rfl dX11_feed_60 (a := z8) ez8 ?_
    exact x_iret (S := (Nat → Nat → Int)) (post := (fun a (u : Nat → Nat → Int) => XI G u ∧ FB (fun i k : Nat => (58 ≤ i ∧ i ≤ 59)) V u ∧ (f_s_feed x1 x2 x3 x4 x5 V J Rr) (a, u))) (w1 := (fun u : Nat → Nat → Int => XW cy ad u J Rr)) (a := z8) C hr rfl dX11_feed_63 (by omega) V7 rfl ⟨hI7, hB7, hF _ rfl⟩
  · replace hF := hF.to (if_neg (fun hh => hh hc2))
    refine x_iconst C.1 (n := -1) dX11_feed_12 ?_
    exact x_iret (S := (Nat → Nat → Int)) (post := (fun a (u : Nat → Nat → Int) => XI G u ∧ FB (fun i k : Nat => (58 ≤ i ∧ i ≤ 59)) V u ∧ (f_s_feed x1 x2 x3 x4 x5 V J Rr) (a, u))) (w1 := (fun u : Nat → Nat → Int => XW cy ad u J Rr)) (a := (-1)) C hr rfl dX11_feed_13 (by decide) V rfl ⟨hI, hB, hF _ rfl⟩
theorem hd_yX3_goBy : yX3_goBy.cls ≠ "java/lang/invoke/MethodHandle" ∧ yX3_goBy.cls ≠ "java/lang/invoke/VarHandle" ∧ (parseMethodDescriptor yX3_goBy.desc).map (fun d => d.parameters.length) = some 2 := by decide +kernel
theorem dX11_days_0 : decode cX11_days 0 = .ok (.iload_n 1, 1) := by decide +kernel
theorem dX11_days_1 : decode cX11_days 1 = .ok (.iconst 1, 1) := by decide +kernel
theorem dX11_days_2 : decode cX11_days 2 = .ok (.bipush 60, 2) := by decide +kernel
theorem dX11_days_4 : decode cX11_days 4 = .ok (.invokestatic 74, 3) := by decide +kernel
theorem dX11_days_7 : decode cX11_days 7 = .ok (.ifCond .ne 5, 3) := by decide +kernel
theorem dX11_days_10 : decode cX11_days 10 = .ok (.iconst (-1), 1) := by decide +kernel
theorem dX11_days_11 : decode cX11_days 11 = .ok (.ireturn, 1) := by decide +kernel
theorem dX11_days_12 : decode cX11_days 12 = .ok (.aload_n 0, 1) := by decide +kernel
theorem dX11_days_13 : decode cX11_days 13 = .ok (.getfield 10, 3) := by decide +kernel
theorem dX11_days_16 : decode cX11_days 16 = .ok (.aload_n 0, 1) := by decide +kernel
theorem dX11_days_17 : decode cX11_days 17 = .ok (.getfield 34, 3) := by decide +kernel
theorem dX11_days_20 : decode cX11_days 20 = .ok (.iload_n 1, 1) := by decide +kernel
theorem dX11_days_21 : decode cX11_days 21 = .ok (.invokevirtual 132, 3) := by decide +kernel
theorem dX11_days_24 : decode cX11_days 24 = .ok (.aload_n 0, 1) := by decide +kernel
theorem dX11_days_25 : decode cX11_days 25 = .ok (.getfield 10, 3) := by decide +kernel
theorem dX11_days_28 : decode cX11_days 28 = .ok (.getfield 136, 3) := by decide +kernel
theorem dX11_days_31 : decode cX11_days 31 = .ok (.ireturn, 1) := by decide +kernel
set_option maxRecDepth 100000 in
def f_s_days (x1 : Int) (V : Nat → Nat → Int) (J : Nat → Nat → Int) (Rr : Nat → Nat → Nat) : (Int × (Nat → Nat → Int)) → Prop :=
  calR (f_s_isWithin x1 1 60) fun z1 => fct (0 ≤ z1 ∧ z1 ≤ 1) <| (if ¬ z1 = 0 then calUX (fun i k : Nat => (1 ≤ i ∧ i ≤ 1 + 18) ∨ (69 ≤ i ∧ i ≤ 71)) V (f_s_goBy 1 x1 V J Rr) fun V4 => rdb (V4 1 5) fun z5 => rtn (z5, V4) else rtn ((-1), V))
set_option maxHeartbeats 8000000 in
set_option maxRecDepth 100000 in
theorem s_days (l : Launch) (D : va_G) (cy : Nat → ClassId) (ad : Nat → Nat) (G : Nat → Nat → Int) (V J : Nat → Nat → Int) (Rr : Nat → Nat → Nat) (hI : XI G V) (hJ : VJ J) (hR : XR Rr) (x1 : Int) (bx1 : -2147483648 ≤ x1 ∧ x1 ≤ 2147483647) : xMi l D (xTY cy) yX11_days cX11_days 2 (some .int) 7 171 0 0 [.ref (ad 0), vI x1] (XW cy ad V J Rr) (fun u : Nat → Nat → Int => XW cy ad u J Rr) (fun a (u : Nat → Nat → Int) => XI G u ∧ FB (fun i k : Nat => (1 ≤ i ∧ i ≤ 19) ∨ (69 ≤ i ∧ i ≤ 71)) V u ∧ (f_s_days x1 V J Rr) (a, u)) := by
  refine xMi.mk (lv0 := [(0, .ref (ad 0)), (1, vI x1)]) (by decide) rfl (Nat.le_of_ble_eq_true rfl) (fun p e s m below meth c A C hr hnm hAe => ?_)
  have C : xC2 p s m _ meth c D A s.heap 2 cX11_days RX11 (xTY cy) := C
  have hB : FB (fun i k : Nat => (1 ≤ i ∧ i ≤ 19) ∨ (69 ≤ i ∧ i ≤ 71)) V V := FB.rf _ _
  have hF := Imp.of_eq (f_s_days.eq_def x1 V J Rr)
  refine x_iload_n C.1 dX11_days_0 1 rfl ?_
  refine x_iconst C.1 (n := 1) dX11_days_1 ?_
  refine x_bipush C.1 (n := 60) dX11_days_2 ?_
  refine x_callSi C (As := [vI x1, vI 1, vI 60]) (rest := []) (s_isWithin l D cy x1 ⟨by omega, by omega⟩ 1 ⟨by decide, by decide⟩ 60 ⟨by decide, by decide⟩) (l1 := []) (l2 := _) rfl (w2 := fun _ => _) (fun _ => rfl) rfl wm_yX11_isWithin wn_X11 wl_X11_74 wi_yX11_isWithin hd_yX11_isWithin rfl ⟨Nat.le_of_ble_eq_true rfl, Nat.le_of_ble_eq_true rfl⟩ (Nat.le_of_ble_eq_true rfl) ⟨Nat.le_of_ble_eq_true rfl, Nat.le_of_ble_eq_true rfl⟩ dX11_days_4 (fun z1 u1 bz1 h1 => ?_)
  obtain ⟨bq1, hx1_0, hFc1⟩ := h1
  replace hF := calR_i hF hFc1
  replace hF := hF.fc bq1
  refine x_if_ne C.1 (tgt := 12) dX11_days_7 (by decide) (by omega) (fun hc2 => ?_) (fun hc2 => ?_)
  · replace hF := hF.to (if_pos hc2)
    have hon3 := Sq.on hx1_0 (by omega)
    refine x_aload_n C.1 dX11_days_12 0 rfl ?_
    refine x_getA C (N := 129) (i := 0) (by decide) rfl vc_X11 wx_X11 0 (by decide) wf_X11_10 (a := 1) rfl dX11_days_13 ?_
    refine x_aload_n C.1 dX11_days_16 0 rfl ?_
    refine x_getA C (N := 129) (i := 0) (by decide) rfl vc_X11 wx_X11 5 (by decide) wf_X11_34 (a := 60) rfl dX11_days_17 ?_
    refine x_iload_n C.1 dX11_days_20 1 rfl ?_
    refine x_callVv C (As := [.ref (ad 60), vI x1]) (rest := []) 1 (xw_at (N := 129) (i := 1) (by omega) (xd_L (Or.inl rfl))) vc_X3 (s_goBy l D cy ad G V J Rr hI hJ hR 1 (Or.inl rfl) x1 ⟨by omega, by omega⟩) (l1 := []) (l2 := []) (List.append_nil _).symm (w2 := fun u : Nat → Nat → Int => XW cy ad u J Rr) (fun _ => List.append_nil _) rfl wm_yX3_goBy wn_X3 wl_X11_132 wi_yX3_goBy we_yX3_goBy hd_yX3_goBy rfl ⟨Nat.le_of_ble_eq_true rfl, Nat.le_of_ble_eq_true rfl⟩ (Nat.le_of_ble_eq_true rfl) ⟨Nat.le_of_ble_eq_true rfl, Nat.le_of_ble_eq_true rfl⟩ dX11_days_21 (fun V4 h4 => ?_)
    obtain ⟨hI4, hBc4, hFc4⟩ := h4
    replace hF := calUX_i hF hFc4 hBc4
    have hB4 := hB.tr hBc4 (fun i k h => (h.elim (fun h => (Or.inl (⟨by omega, by omega⟩))) (fun h => (Or.inr (h)))))
    refine x_aload_n C.1 dX11_days_24 0 rfl ?_
    refine x_getA C (N := 129) (i := 0) (by decide) rfl vc_X11 wx_X11 0 (by decide) wf_X11_10 (a := 1) rfl dX11_days_25 ?_
    obtain ⟨z5, ez5, bz5⟩ := hI4.rd 1 5 (x := -2147483648) (y := 2147483647) (rg_L (Or.inl rfl) _)
    replace hF := hF.to (rdb_e (z := z5) ez5)
    refine x_getI C (N := 129) (i := 1) (by omega) (xd_L (Or.inl rfl)) vc_X3 wx_X3 5 (by decide) wf_X11_136 rfl dX11_days_28 (a := z5) ez5 ?_
    exact x_iret (S := (Nat → Nat → Int)) (post := (fun a (u : Nat → Nat → Int) => XI G u ∧ FB (fun i k : Nat => (1 ≤ i ∧ i ≤ 19) ∨ (69 ≤ i ∧ i ≤ 71)) V u ∧ (f_s_days x1 V J Rr) (a, u))) (w1 := (fun u : Nat → Nat → Int => XW cy ad u J Rr)) (a := z5) C hr rfl dX11_days_31 (by omega) V4 rfl ⟨hI4, hB4, hF _ rfl⟩
  · replace hF := hF.to (if_neg (fun hh => hh hc2))
    refine x_iconst C.1 (n := -1) dX11_days_10 ?_
    exact x_iret (S := (Nat → Nat → Int)) (post := (fun a (u : Nat → Nat → Int) => XI G u ∧ FB (fun i k : Nat => (1 ≤ i ∧ i ≤ 19) ∨ (69 ≤ i ∧ i ≤ 71)) V u ∧ (f_s_days x1 V J Rr) (a, u))) (w1 := (fun u : Nat → Nat → Int => XW cy ad u J Rr)) (a := (-1)) C hr rfl dX11_days_11 (by decide) V rfl ⟨hI, hB, hF _ rfl⟩
theorem hd_yJ6_bitCount_0f7a4 : yJ6_bitCount_0f7a4.cls ≠ "java/lang/invoke/MethodHandle" ∧ yJ6_bitCount_0f7a4.cls ≠ "java/lang/invoke/VarHandle" ∧ (parseMethodDescriptor yJ6_bitCount_0f7a4.desc).map (fun d => d.parameters.length) = some 1 := by decide +kernel
theorem hd_yX11_canTry : yX11_canTry.cls ≠ "java/lang/invoke/MethodHandle" ∧ yX11_canTry.cls ≠ "java/lang/invoke/VarHandle" ∧ (parseMethodDescriptor yX11_canTry.desc).map (fun d => d.parameters.length) = some 1 := by decide +kernel
theorem hd_yX3_deadBits : yX3_deadBits.cls ≠ "java/lang/invoke/MethodHandle" ∧ yX3_deadBits.cls ≠ "java/lang/invoke/VarHandle" ∧ (parseMethodDescriptor yX3_deadBits.desc).map (fun d => d.parameters.length) = some 0 := by decide +kernel
theorem dX11_tried_0 : decode cX11_tried 0 = .ok (.iload_n 1, 1) := by decide +kernel
theorem dX11_tried_1 : decode cX11_tried 1 = .ok (.iconst 1, 1) := by decide +kernel
theorem dX11_tried_2 : decode cX11_tried 2 = .ok (.bipush 60, 2) := by decide +kernel
theorem dX11_tried_4 : decode cX11_tried 4 = .ok (.invokestatic 74, 3) := by decide +kernel
theorem dX11_tried_7 : decode cX11_tried 7 = .ok (.ifCond .eq 11, 3) := by decide +kernel
theorem dX11_tried_10 : decode cX11_tried 10 = .ok (.aload_n 0, 1) := by decide +kernel
theorem dX11_tried_11 : decode cX11_tried 11 = .ok (.iload_n 2, 1) := by decide +kernel
theorem dX11_tried_12 : decode cX11_tried 12 = .ok (.invokevirtual 139, 3) := by decide +kernel
theorem dX11_tried_15 : decode cX11_tried 15 = .ok (.ifCond .ne 5, 3) := by decide +kernel
theorem dX11_tried_18 : decode cX11_tried 18 = .ok (.iconst (-1), 1) := by decide +kernel
theorem dX11_tried_19 : decode cX11_tried 19 = .ok (.ireturn, 1) := by decide +kernel
theorem dX11_tried_20 : decode cX11_tried 20 = .ok (.aload_n 0, 1) := by decide +kernel
theorem dX11_tried_21 : decode cX11_tried 21 = .ok (.getfield 19, 3) := by decide +kernel
theorem dX11_tried_24 : decode cX11_tried 24 = .ok (.aload_n 0, 1) := by decide +kernel
theorem dX11_tried_25 : decode cX11_tried 25 = .ok (.getfield 10, 3) := by decide +kernel
theorem dX11_tried_28 : decode cX11_tried 28 = .ok (.invokevirtual 142, 3) := by decide +kernel
theorem dX11_tried_31 : decode cX11_tried 31 = .ok (.aload_n 0, 1) := by decide +kernel
theorem dX11_tried_32 : decode cX11_tried 32 = .ok (.getfield 19, 3) := by decide +kernel
theorem dX11_tried_35 : decode cX11_tried 35 = .ok (.aload_n 0, 1) := by decide +kernel
theorem dX11_tried_36 : decode cX11_tried 36 = .ok (.getfield 34, 3) := by decide +kernel
theorem dX11_tried_39 : decode cX11_tried 39 = .ok (.iload_n 1, 1) := by decide +kernel
theorem dX11_tried_40 : decode cX11_tried 40 = .ok (.invokevirtual 132, 3) := by decide +kernel
theorem dX11_tried_43 : decode cX11_tried 43 = .ok (.iload_n 2, 1) := by decide +kernel
theorem dX11_tried_44 : decode cX11_tried 44 = .ok (.bipush 20, 2) := by decide +kernel
theorem dX11_tried_46 : decode cX11_tried 46 = .ok (.if_icmp .lt 35, 3) := by decide +kernel
theorem dX11_tried_49 : decode cX11_tried 49 = .ok (.aload_n 0, 1) := by decide +kernel
theorem dX11_tried_50 : decode cX11_tried 50 = .ok (.getfield 19, 3) := by decide +kernel
theorem dX11_tried_53 : decode cX11_tried 53 = .ok (.getfield 146, 3) := by decide +kernel
theorem dX11_tried_56 : decode cX11_tried 56 = .ok (.iload_n 2, 1) := by decide +kernel
theorem dX11_tried_57 : decode cX11_tried 57 = .ok (.bipush 20, 2) := by decide +kernel
theorem dX11_tried_59 : decode cX11_tried 59 = .ok (.isub, 1) := by decide +kernel
theorem dX11_tried_60 : decode cX11_tried 60 = .ok (.aaload, 1) := by decide +kernel
theorem dX11_tried_61 : decode cX11_tried 61 = .ok (.getfield 150, 3) := by decide +kernel
theorem dX11_tried_64 : decode cX11_tried 64 = .ok (.aload_n 0, 1) := by decide +kernel
theorem dX11_tried_65 : decode cX11_tried 65 = .ok (.getfield 10, 3) := by decide +kernel
theorem dX11_tried_68 : decode cX11_tried 68 = .ok (.getfield 146, 3) := by decide +kernel
theorem dX11_tried_71 : decode cX11_tried 71 = .ok (.iload_n 2, 1) := by decide +kernel
theorem dX11_tried_72 : decode cX11_tried 72 = .ok (.bipush 20, 2) := by decide +kernel
theorem dX11_tried_74 : decode cX11_tried 74 = .ok (.isub, 1) := by decide +kernel
theorem dX11_tried_75 : decode cX11_tried 75 = .ok (.aaload, 1) := by decide +kernel
theorem dX11_tried_76 : decode cX11_tried 76 = .ok (.getfield 150, 3) := by decide +kernel
theorem dX11_tried_79 : decode cX11_tried 79 = .ok (.isub, 1) := by decide +kernel
theorem dX11_tried_80 : decode cX11_tried 80 = .ok (.ireturn, 1) := by decide +kernel
theorem dX11_tried_81 : decode cX11_tried 81 = .ok (.iload_n 2, 1) := by decide +kernel
theorem dX11_tried_82 : decode cX11_tried 82 = .ok (.bipush 10, 2) := by decide +kernel
theorem dX11_tried_84 : decode cX11_tried 84 = .ok (.if_icmp .lt 19, 3) := by decide +kernel
theorem dX11_tried_87 : decode cX11_tried 87 = .ok (.aload_n 0, 1) := by decide +kernel
theorem dX11_tried_88 : decode cX11_tried 88 = .ok (.getfield 19, 3) := by decide +kernel
theorem dX11_tried_91 : decode cX11_tried 91 = .ok (.getfield 78, 3) := by decide +kernel
theorem dX11_tried_94 : decode cX11_tried 94 = .ok (.iload_n 2, 1) := by decide +kernel
theorem dX11_tried_95 : decode cX11_tried 95 = .ok (.bipush 10, 2) := by decide +kernel
theorem dX11_tried_97 : decode cX11_tried 97 = .ok (.isub, 1) := by decide +kernel
theorem dX11_tried_98 : decode cX11_tried 98 = .ok (.aaload, 1) := by decide +kernel
theorem dX11_tried_99 : decode cX11_tried 99 = .ok (.getfield 110, 3) := by decide +kernel
theorem dX11_tried_102 : decode cX11_tried 102 = .ok (.ireturn, 1) := by decide +kernel
theorem dX11_tried_103 : decode cX11_tried 103 = .ok (.iload_n 2, 1) := by decide +kernel
theorem dX11_tried_104 : decode cX11_tried 104 = .ok (.ifCond .ne 11, 3) := by decide +kernel
theorem dX11_tried_107 : decode cX11_tried 107 = .ok (.aload_n 0, 1) := by decide +kernel
theorem dX11_tried_108 : decode cX11_tried 108 = .ok (.getfield 19, 3) := by decide +kernel
theorem dX11_tried_111 : decode cX11_tried 111 = .ok (.getfield 136, 3) := by decide +kernel
theorem dX11_tried_114 : decode cX11_tried 114 = .ok (.ireturn, 1) := by decide +kernel
theorem dX11_tried_115 : decode cX11_tried 115 = .ok (.iload_n 2, 1) := by decide +kernel
theorem dX11_tried_116 : decode cX11_tried 116 = .ok (.iconst 1, 1) := by decide +kernel
theorem dX11_tried_117 : decode cX11_tried 117 = .ok (.if_icmp .ne 11, 3) := by decide +kernel
theorem dX11_tried_120 : decode cX11_tried 120 = .ok (.aload_n 0, 1) := by decide +kernel
theorem dX11_tried_121 : decode cX11_tried 121 = .ok (.getfield 19, 3) := by decide +kernel
theorem dX11_tried_124 : decode cX11_tried 124 = .ok (.getfield 153, 3) := by decide +kernel
theorem dX11_tried_127 : decode cX11_tried 127 = .ok (.ireturn, 1) := by decide +kernel
theorem dX11_tried_128 : decode cX11_tried 128 = .ok (.iload_n 2, 1) := by decide +kernel
theorem dX11_tried_129 : decode cX11_tried 129 = .ok (.iconst 2, 1) := by decide +kernel
theorem dX11_tried_130 : decode cX11_tried 130 = .ok (.if_icmp .ne 16, 3) := by decide +kernel
theorem dX11_tried_133 : decode cX11_tried 133 = .ok (.aload_n 0, 1) := by decide +kernel
theorem dX11_tried_134 : decode cX11_tried 134 = .ok (.getfield 19, 3) := by decide +kernel
theorem dX11_tried_137 : decode cX11_tried 137 = .ok (.invokevirtual 156, 3) := by decide +kernel
theorem dX11_tried_140 : decode cX11_tried 140 = .ok (.invokestatic 160, 3) := by decide +kernel
theorem dX11_tried_143 : decode cX11_tried 143 = .ok (.goto 10, 3) := by decide +kernel
theorem dX11_tried_146 : decode cX11_tried 146 = .ok (.aload_n 0, 1) := by decide +kernel
theorem dX11_tried_147 : decode cX11_tried 147 = .ok (.getfield 19, 3) := by decide +kernel
theorem dX11_tried_150 : decode cX11_tried 150 = .ok (.getfield 165, 3) := by decide +kernel
theorem dX11_tried_153 : decode cX11_tried 153 = .ok (.ireturn, 1) := by decide +kernel
set_option maxRecDepth 100000 in
def f_s_tried (x1 : Int) (x2 : Int) (V : Nat → Nat → Int) (J : Nat → Nat → Int) (Rr : Nat → Nat → Nat) : (Int × (Nat → Nat → Int)) → Prop :=
  calR (f_s_isWithin x1 1 60) fun z1 => fct (0 ≤ z1 ∧ z1 ≤ 1) <| (if z1 = 0 then rtn ((-1), V) else calR (f_s_canTry x2 V J Rr) fun z4 => fct (0 ≤ z4 ∧ z4 ≤ 1) <| (if ¬ z4 = 0 then calUX (fun i k : Nat => (39 ≤ i ∧ i ≤ 57)) V (f_s_copyT V J Rr) fun V7 => calUX (fun i k : Nat => (39 ≤ i ∧ i ≤ 39 + 18) ∨ (69 ≤ i ∧ i ≤ 71)) V7 (f_s_goBy 39 x1 V7 J Rr) fun V8 => (if x2 < 20 then (if x2 < 10 then (if ¬ x2 = 0 then (if ¬ x2 = 1 then (if ¬ x2 = 2 then rdb (V8 39 7) fun z14 => rtn (z14, V8) else calR (f_s_deadBits 39 V8 J Rr) fun z15 => calR (f_s_bitCount z15) fun z16 => fct (0 ≤ z16 ∧ z16 ≤ 63) <| rtn (z16, V8)) else rdb (V8 39 6) fun z17 => rtn (z17, V8)) else rdb (V8 39 5) fun z18 => rtn (z18, V8)) else rdb (39 + 3 + 2 * (x2 - 10).toNat) fun c19 => rdb (V8 c19 2) fun z20 => rtn (z20, V8)) else rdb (39 + 11 + 1 * (x2 - 20).toNat) fun c21 => rdb (V8 c21 3) fun z22 => rdb (1 + 11 + 1 * (x2 - 20).toNat) fun c23 => rdb (V8 c23 3) fun z24 => rdb (wr (z22 - z24)) fun z25 => rtn (z25, V8)) else rtn ((-1), V)))
set_option maxHeartbeats 8000000 in
set_option maxRecDepth 100000 in
theorem s_tried (l : Launch) (D : va_G) (cy : Nat → ClassId) (ad : Nat → Nat) (G : Nat → Nat → Int) (V J : Nat → Nat → Int) (Rr : Nat → Nat → Nat) (hI : XI G V) (hJ : VJ J) (hR : XR Rr) (x1 : Int) (bx1 : -2147483648 ≤ x1 ∧ x1 ≤ 2147483647) (x2 : Int) (bx2 : -2147483648 ≤ x2 ∧ x2 ≤ 2147483647) : xMi l D (xTY cy) yX11_tried cX11_tried 3 (some .int) 7 171 0 0 [.ref (ad 0), vI x1, vI x2] (XW cy ad V J Rr) (fun u : Nat → Nat → Int => XW cy ad u J Rr) (fun a (u : Nat → Nat → Int) => XI G u ∧ FB (fun i k : Nat => (39 ≤ i ∧ i ≤ 57) ∨ (69 ≤ i ∧ i ≤ 71)) V u ∧ (f_s_tried x1 x2 V J Rr) (a, u)) := by
  refine xMi.mk (lv0 := [(0, .ref (ad 0)), (1, vI x1), (2, vI x2)]) (by decide) rfl (Nat.le_of_ble_eq_true rfl) (fun p e s m below meth c A C hr hnm hAe => ?_)
  have C : xC2 p s m _ meth c D A s.heap 3 cX11_tried RX11 (xTY cy) := C
  have hB : FB (fun i k : Nat => (39 ≤ i ∧ i ≤ 57) ∨ (69 ≤ i ∧ i ≤ 71)) V V := FB.rf _ _
  have hF := Imp.of_eq (f_s_tried.eq_def x1 x2 V J Rr)
  refine x_iload_n C.1 dX11_tried_0 1 rfl ?_
  refine x_iconst C.1 (n := 1) dX11_tried_1 ?_
  refine x_bipush C.1 (n := 60) dX11_tried_2 ?_
  refine x_callSi C (As := [vI x1, vI 1, vI 60]) (rest := []) (s_isWithin l D cy x1 ⟨by omega, by omega⟩ 1 ⟨by decide, by decide⟩ 60 ⟨by decide, by decide⟩) (l1 := []) (l2 := _) rfl (w2 := fun _ => _) (fun _ => rfl) rfl wm_yX11_isWithin wn_X11 wl_X11_74 wi_yX11_isWithin hd_yX11_isWithin rfl ⟨Nat.le_of_ble_eq_true rfl, Nat.le_of_ble_eq_true rfl⟩ (Nat.le_of_ble_eq_true rfl) ⟨Nat.le_of_ble_eq_true rfl, Nat.le_of_ble_eq_true rfl⟩ dX11_tried_4 (fun z1 u1 bz1 h1 => ?_)
  obtain ⟨bq1, hx1_0, hFc1⟩ := h1
  replace hF := calR_i hF hFc1
  replace hF := hF.fc bq1
  refine x_if_eq C.1 (tgt := 18) dX11_tried_7 (by decide) (by omega) (fun hc2 => ?_) (fun hc2 => ?_)
  · replace hF := hF.to (if_pos hc2)
    refine x_iconst C.1 (n := -1) dX11_tried_18 ?_
    exact x_iret (S := (Nat → Nat → Int)) (post := (fun a (u : Nat → Nat → Int) => XI G u ∧ FB (fun i k : Nat => (39 ≤ i ∧ i ≤ 57) ∨ (69 ≤ i ∧ i ≤ 71)) V u ∧ (f_s_tried x1 x2 V J Rr) (a, u))) (w1 := (fun u : Nat → Nat → Int => XW cy ad u J Rr)) (a := (-1)) C hr rfl dX11_tried_19 (by decide) V rfl ⟨hI, hB, hF _ rfl⟩
  · replace hF := hF.to (if_neg hc2)
    have hon3 := Sq.on hx1_0 (by omega)
    refine x_aload_n C.1 dX11_tried_10 0 rfl ?_
    refine x_iload_n C.1 dX11_tried_11 2 rfl ?_
    refine x_callVi C (As := [vI x2]) (rest := []) 0 (xw_at (N := 129) (i := 0) (by decide) rfl) vc_X11 (s_canTry l D cy ad G V J Rr hI hJ hR x2 ⟨by omega, by omega⟩) (l1 := []) (l2 := []) (List.append_nil _).symm (w2 := fun _ => XW cy ad V J Rr) (fun _ => List.append_nil _) rfl wm_yX11_canTry wn_X11 wl_X11_139 wi_yX11_canTry we_yX11_canTry hd_yX11_canTry rfl ⟨Nat.le_of_ble_eq_true rfl, Nat.le_of_ble_eq_true rfl⟩ (Nat.le_of_ble_eq_true rfl) ⟨Nat.le_of_ble_eq_true rfl, Nat.le_of_ble_eq_true rfl⟩ dX11_tried_12 (fun z4 u4 bz4 h4 => ?_)
    obtain ⟨bq4, hx4_0, hFc4⟩ := h4
    replace hF := calR_i hF hFc4
    replace hF := hF.fc bq4
    refine x_if_ne C.1 (tgt := 20) dX11_tried_15 (by decide) (by omega) (fun hc5 => ?_) (fun hc5 => ?_)
    · replace hF := hF.to (if_pos hc5)
      have hon6 := Sp.on hx4_0 (by omega)
      refine x_aload_n C.1 dX11_tried_20 0 rfl ?_
      refine x_getA C (N := 129) (i := 0) (by decide) rfl vc_X11 wx_X11 2 (by decide) wf_X11_19 (a := 39) rfl dX11_tried_21 ?_
      refine x_aload_n C.1 dX11_tried_24 0 rfl ?_
      refine x_getA C (N := 129) (i := 0) (by decide) rfl vc_X11 wx_X11 0 (by decide) wf_X11_10 (a := 1) rfl dX11_tried_25 ?_
      refine x_callVv C (As := [.ref (ad 1)]) (rest := []) 39 (xw_at (N := 129) (i := 39) (by omega) (xd_L (Or.inr (Or.inr rfl)))) vc_X3 (s_copyT l D cy ad G V J Rr hI hJ hR ) (l1 := []) (l2 := []) (List.append_nil _).symm (w2 := fun u : Nat → Nat → Int => XW cy ad u J Rr) (fun _ => List.append_nil _) rfl wm_yX3_copy wn_X3 wl_X11_142 wi_yX3_copy we_yX3_copy hd_yX3_copy rfl ⟨Nat.le_of_ble_eq_true rfl, Nat.le_of_ble_eq_true rfl⟩ (Nat.le_of_ble_eq_true rfl) ⟨Nat.le_of_ble_eq_true rfl, Nat.le_of_ble_eq_true rfl⟩ dX11_tried_28 (fun V7 h7 => ?_)
      obtain ⟨hI7, hBc7, hFc7⟩ := h7
      replace hF := calUX_i hF hFc7 hBc7
      have hB7 := hB.tr hBc7 (fun i k h => (Or.inl h))
      refine x_aload_n C.1 dX11_tried_31 0 rfl ?_
      refine x_getA C (N := 129) (i := 0) (by decide) rfl vc_X11 wx_X11 2 (by decide) wf_X11_19 (a := 39) rfl dX11_tried_32 ?_
      refine x_aload_n C.1 dX11_tried_35 0 rfl ?_
      refine x_getA C (N := 129) (i := 0) (by decide) rfl vc_X11 wx_X11 5 (by decide) wf_X11_34 (a := 60) rfl dX11_tried_36 ?_
      refine x_iload_n C.1 dX11_tried_39 1 rfl ?_
      refine x_callVv C (As := [.ref (ad 60), vI x1]) (rest := []) 39 (xw_at (N := 129) (i := 39) (by omega) (xd_L (Or.inr (Or.inr rfl)))) vc_X3 (s_goBy l D cy ad G V7 J Rr hI7 hJ hR 39 (Or.inr (Or.inr rfl)) x1 ⟨by omega, by omega⟩) (l1 := []) (l2 := []) (List.append_nil _).symm (w2 := fun u : Nat → Nat → Int => XW cy ad u J Rr) (fun _ => List.append_nil _) rfl wm_yX3_goBy wn_X3 wl_X11_132 wi_yX3_goBy we_yX3_goBy hd_yX3_goBy rfl ⟨Nat.le_of_ble_eq_true rfl, Nat.le_of_ble_eq_true rfl⟩ (Nat.le_of_ble_eq_true rfl) ⟨Nat.le_of_ble_eq_true rfl, Nat.le_of_ble_eq_true rfl⟩ dX11_tried_40 (fun V8 h8 => ?_)
      obtain ⟨hI8, hBc8, hFc8⟩ := h8
      replace hF := calUX_i hF hFc8 hBc8
      have hB8 := hB7.tr hBc8 (fun i k h => (h.elim (fun h => (Or.inl (⟨by omega, by omega⟩))) (fun h => (Or.inr (h)))))
      refine x_iload_n C.1 dX11_tried_43 2 rfl ?_
      refine x_bipush C.1 (n := 20) dX11_tried_44 ?_
      refine x_icmp_lt C.1 (tgt := 81) dX11_tried_46 (by decide) (by omega) (by decide) (fun hc9 => ?_) (fun hc9 => ?_)
      · replace hF := hF.to (if_pos hc9)
        refine x_iload_n C.1 dX11_tried_81 2 rfl ?_
        refine x_bipush C.1 (n := 10) dX11_tried_82 ?_
        refine x_icmp_lt C.1 (tgt := 103) dX11_tried_84 (by decide) (by omega) (by decide) (fun hc10 => ?_) (fun hc10 => ?_)
        · replace hF := hF.to (if_pos hc10)
          refine x_iload_n C.1 dX11_tried_103 2 rfl ?_
          refine x_if_ne C.1 (tgt := 115) dX11_tried_104 (by decide) (by omega) (fun hc11 => ?_) (fun hc11 => ?_)
          · replace hF := hF.to (if_pos hc11)
            refine x_iload_n C.1 dX11_tried_115 2 rfl ?_
            refine x_iconst C.1 (n := 1) dX11_tried_116 ?_
            refine x_icmp_ne C.1 (tgt := 128) dX11_tried_117 (by decide) (by omega) (by decide) (fun hc12 => ?_) (fun hc12 => ?_)
            · replace hF := hF.to (if_pos hc12)
              refine x_iload_n C.1 dX11_tried_128 2 rfl ?_
              refine x_iconst C.1 (n := 2) dX11_tried_129 ?_
              refine x_icmp_ne C.1 (tgt := 146) dX11_tried_130 (by decide) (by omega) (by decide) (fun hc13 => ?_) (fun hc13 => ?_)
              · replace hF := hF.to (if_pos hc13)
                refine x_aload_n C.1 dX11_tried_146 0 rfl ?_
                refine x_getA C (N := 129) (i := 0) (by decide) rfl vc_X11 wx_X11 2 (by decide) wf_X11_19 (a := 39) rfl dX11_tried_147 ?_
                obtain ⟨z14, ez14, bz14⟩ := hI8.rd 39 7 (x := -2147483648) (y := 2147483647) (rg_L (Or.inr (Or.inr rfl)) _)
                replace hF := hF.to (rdb_e (z := z14) ez14)
                refine x_getI C (N := 129) (i := 39) (by omega) (xd_L (Or.inr (Or.inr rfl))) vc_X3 wx_X3 7 (by decide) wf_X11_165 rfl dX11_tried_150 (a := z14) ez14 ?_
                exact x_iret (S := (Nat → Nat → Int)) (post := (fun a (u : Nat → Nat → Int) => XI G u ∧ FB (fun i k : Nat => (39 ≤ i ∧ i ≤ 57) ∨ (69 ≤ i ∧ i ≤ 71)) V u ∧ (f_s_tried x1 x2 V J Rr) (a, u))) (w1 := (fun u : Nat → Nat → Int => XW cy ad u J Rr)) (a := z14) C hr rfl dX11_tried_153 (by omega) V8 rfl ⟨hI8, hB8, hF _ rfl⟩
              · replace hF := hF.to (if_neg (fun hh => hh hc13))
                refine x_aload_n C.1 dX11_tried_133 0 rfl ?_
                refine x_getA C (N := 129) (i := 0) (by decide) rfl vc_X11 wx_X11 2 (by decide) wf_X11_19 (a := 39) rfl dX11_tried_134 ?_
                refine x_callVi C (As := []) (rest := []) 39 (xw_at (N := 129) (i := 39) (by omega) (xd_L (Or.inr (Or.inr rfl)))) vc_X3 (s_deadBits l D cy ad G V8 J Rr hI8 hJ hR 39 (Or.inr (Or.inr rfl))) (l1 := []) (l2 := []) (List.append_nil _).symm (w2 := fun _ => XW cy ad V8 J Rr) (fun _ => List.append_nil _) rfl wm_yX3_deadBits wn_X3 wl_X11_156 wi_yX3_deadBits we_yX3_deadBits hd_yX3_deadBits rfl ⟨Nat.le_of_ble_eq_true rfl, Nat.le_of_ble_eq_true rfl⟩ (Nat.le_of_ble_eq_true rfl) ⟨Nat.le_of_ble_eq_true rfl, Nat.le_of_ble_eq_true rfl⟩ dX11_tried_137 (fun z15 u15 bz15 h15 => ?_)
                have hFc15 := h15
                replace hF := calR_i hF hFc15
                refine x_callSi C (As := [vI z15]) (rest := []) (s_bitCount l D cy z15 ⟨by omega, by omega⟩) (l1 := []) (l2 := _) rfl (w2 := fun _ => _) (fun _ => rfl) rfl wm_yJ6_bitCount_0f7a4 wn_J6 wl_X11_160 wi_yJ6_bitCount_0f7a4 hd_yJ6_bitCount_0f7a4 rfl ⟨Nat.le_of_ble_eq_true rfl, Nat.le_of_ble_eq_true rfl⟩ (Nat.le_of_ble_eq_true rfl) ⟨Nat.le_of_ble_eq_true rfl, Nat.le_of_ble_eq_true rfl⟩ dX11_tried_140 (fun z16 u16 bz16 h16 => ?_)
                obtain ⟨bq16, hFc16⟩ := h16
                replace hF := calR_i hF hFc16
                replace hF := hF.fc bq16
                refine x_goto C.1 (tgt := 153) dX11_tried_143 (by decide) ?_
                exact x_iret (S := (Nat → Nat → Int)) (post := (fun a (u : Nat → Nat → Int) => XI G u ∧ FB (fun i k : Nat => (39 ≤ i ∧ i ≤ 57) ∨ (69 ≤ i ∧ i ≤ 71)) V u ∧ (f_s_tried x1 x2 V J Rr) (a, u))) (w1 := (fun u : Nat → Nat → Int => XW cy ad u J Rr)) (a := z16) C hr rfl dX11_tried_153 (by omega) V8 rfl ⟨hI8, hB8, hF _ rfl⟩
            · replace hF := hF.to (if_neg (fun hh => hh hc12))
              refine x_aload_n C.1 dX11_tried_120 0 rfl ?_
              refine x_getA C (N := 129) (i := 0) (by decide) rfl vc_X11 wx_X11 2 (by decide) wf_X11_19 (a := 39) rfl dX11_tried_121 ?_
              obtain ⟨z17, ez17, bz17⟩ := hI8.rd 39 6 (x := -2147483648) (y := 2147483647) (rg_L (Or.inr (Or.inr rfl)) _)
              replace hF := hF.to (rdb_e (z := z17) ez17)
              refine x_getI C (N := 129) (i := 39) (by omega) (xd_L (Or.inr (Or.inr rfl))) vc_X3 wx_X3 6 (by decide) wf_X11_153 rfl dX11_tried_124 (a := z17) ez17 ?_
              exact x_iret (S := (Nat → Nat → Int)) (post := (fun a (u : Nat → Nat → Int) => XI G u ∧ FB (fun i k : Nat => (39 ≤ i ∧ i ≤ 57) ∨ (69 ≤ i ∧ i ≤ 71)) V u ∧ (f_s_tried x1 x2 V J Rr) (a, u))) (w1 := (fun u : Nat → Nat → Int => XW cy ad u J Rr)) (a := z17) C hr rfl dX11_tried_127 (by omega) V8 rfl ⟨hI8, hB8, hF _ rfl⟩
          · replace hF := hF.to (if_neg (fun hh => hh hc11))
            refine x_aload_n C.1 dX11_tried_107 0 rfl ?_
            refine x_getA C (N := 129) (i := 0) (by decide) rfl vc_X11 wx_X11 2 (by decide) wf_X11_19 (a := 39) rfl dX11_tried_108 ?_
            obtain ⟨z18, ez18, bz18⟩ := hI8.rd 39 5 (x := -2147483648) (y := 2147483647) (rg_L (Or.inr (Or.inr rfl)) _)
            replace hF := hF.to (rdb_e (z := z18) ez18)
            refine x_getI C (N := 129) (i := 39) (by omega) (xd_L (Or.inr (Or.inr rfl))) vc_X3 wx_X3 5 (by decide) wf_X11_136 rfl dX11_tried_111 (a := z18) ez18 ?_
            exact x_iret (S := (Nat → Nat → Int)) (post := (fun a (u : Nat → Nat → Int) => XI G u ∧ FB (fun i k : Nat => (39 ≤ i ∧ i ≤ 57) ∨ (69 ≤ i ∧ i ≤ 71)) V u ∧ (f_s_tried x1 x2 V J Rr) (a, u))) (w1 := (fun u : Nat → Nat → Int => XW cy ad u J Rr)) (a := z18) C hr rfl dX11_tried_114 (by omega) V8 rfl ⟨hI8, hB8, hF _ rfl⟩
        · replace hF := hF.to (if_neg hc10)
          refine x_aload_n C.1 dX11_tried_87 0 rfl ?_
          refine x_getA C (N := 129) (i := 0) (by decide) rfl vc_X11 wx_X11 2 (by decide) wf_X11_19 (a := 39) rfl dX11_tried_88 ?_
          refine x_getA C (N := 129) (i := 39) (by omega) (xd_L (Or.inr (Or.inr rfl))) vc_X3 wx_X3 0 (by decide) wf_X11_78 (a := 40) rfl dX11_tried_91 ?_
          refine x_iload_n C.1 dX11_tried_94 2 rfl ?_
          refine x_bipush C.1 (n := 10) dX11_tried_95 ?_
          refine x_isub C.1 (v := x2 - 10) (by omega) dX11_tried_97 ?_
          obtain ⟨c19, ec19, hc19⟩ : ∃ cx : Nat, 39 + 3 + 2 * (x2 - 10).toNat = cx ∧ isPl cx := ⟨_, rfl, isPl_L (Or.inr (Or.inr rfl)) (by omega)⟩
          replace hF := hF.to (rdb_e (z := c19) ec19)
          refine x_aldS C (N := 129) (i := 40) (q := x2 - 10) (t := 4) rfl (by omega) (xd_La (Or.inr (Or.inr rfl))) (by omega) (by decide) dX11_tried_98 (a := c19) ec19 ?_
          obtain ⟨z20, ez20, bz20⟩ := hI8.rd c19 2 (x := -2147483648) (y := 2147483647) (rg_P hc19 2)
          replace hF := hF.to (rdb_e (z := z20) ez20)
          refine x_getI C (N := 129) (i := c19) (Nat.lt_of_succ_lt hc19.1) hc19.2.1 vc_X5 wx_X5 2 (by decide) wf_X11_110 rfl dX11_tried_99 (a := z20) ez20 ?_
          exact x_iret (S := (Nat → Nat → Int)) (post := (fun a (u : Nat → Nat → Int) => XI G u ∧ FB (fun i k : Nat => (39 ≤ i ∧ i ≤ 57) ∨ (69 ≤ i ∧ i ≤ 71)) V u ∧ (f_s_tried x1 x2 V J Rr) (a, u))) (w1 := (fun u : Nat → Nat → Int => XW cy ad u J Rr)) (a := z20) C hr rfl dX11_tried_102 (by omega) V8 rfl ⟨hI8, hB8, hF _ rfl⟩
      · replace hF := hF.to (if_neg hc9)
        refine x_aload_n C.1 dX11_tried_49 0 rfl ?_
        refine x_getA C (N := 129) (i := 0) (by decide) rfl vc_X11 wx_X11 2 (by decide) wf_X11_19 (a := 39) rfl dX11_tried_50 ?_
        refine x_getA C (N := 129) (i := 39) (by omega) (xd_L (Or.inr (Or.inr rfl))) vc_X3 wx_X3 1 (by decide) wf_X11_146 (a := 41) rfl dX11_tried_53 ?_
        refine x_iload_n C.1 dX11_tried_56 2 rfl ?_
        refine x_bipush C.1 (n := 20) dX11_tried_57 ?_
        refine x_isub C.1 (v := x2 - 20) (by omega) dX11_tried_59 ?_
        obtain ⟨c21, ec21, hc21⟩ : ∃ cx : Nat, 39 + 11 + 1 * (x2 - 20).toNat = cx ∧ isPe cx := ⟨_, rfl, isPe_L (Or.inr (Or.inr rfl)) (by omega)⟩
        replace hF := hF.to (rdb_e (z := c21) ec21)
        refine x_aldS C (N := 129) (i := 41) (q := x2 - 20) (t := 5) rfl (by omega) (xd_Lb (Or.inr (Or.inr rfl))) (by omega) (by decide) dX11_tried_60 (a := c21) ec21 ?_
        obtain ⟨z22, ez22, bz22⟩ := hI8.rd c21 3 (x := -2147483648) (y := 2147483647) (rg_E hc21 3)
        replace hF := hF.to (rdb_e (z := z22) ez22)
        refine x_getI C (N := 129) (i := c21) hc21.1 hc21.2 vc_X4 wx_X4 3 (by decide) wf_X11_150 rfl dX11_tried_61 (a := z22) ez22 ?_
        refine x_aload_n C.1 dX11_tried_64 0 rfl ?_
        refine x_getA C (N := 129) (i := 0) (by decide) rfl vc_X11 wx_X11 0 (by decide) wf_X11_10 (a := 1) rfl dX11_tried_65 ?_
        refine x_getA C (N := 129) (i := 1) (by omega) (xd_L (Or.inl rfl)) vc_X3 wx_X3 1 (by decide) wf_X11_146 (a := 3) rfl dX11_tried_68 ?_
        refine x_iload_n C.1 dX11_tried_71 2 rfl ?_
        refine x_bipush C.1 (n := 20) dX11_tried_72 ?_
        refine x_isub C.1 (v := x2 - 20) (by omega) dX11_tried_74 ?_
        obtain ⟨c23, ec23, hc23⟩ : ∃ cx : Nat, 1 + 11 + 1 * (x2 - 20).toNat = cx ∧ isPe cx := ⟨_, rfl, isPe_L (Or.inl rfl) (by omega)⟩
        replace hF := hF.to (rdb_e (z := c23) ec23)
        refine x_aldS C (N := 129) (i := 3) (q := x2 - 20) (t := 5) rfl (by omega) (xd_Lb (Or.inl rfl)) (by omega) (by decide) dX11_tried_75 (a := c23) ec23 ?_
        obtain ⟨z24, ez24, bz24⟩ := hI8.rd c23 3 (x := -2147483648) (y := 2147483647) (rg_E hc23 3)
        replace hF := hF.to (rdb_e (z := z24) ez24)
        refine x_getI C (N := 129) (i := c23) hc23.1 hc23.2 vc_X4 wx_X4 3 (by decide) wf_X11_150 rfl dX11_tried_76 (a := z24) ez24 ?_
        refine x_isub C.1 (v := z22 - z24) (by omega) dX11_tried_79 ?_
        refine x_wrapg ?_
        intro z25 bz25 ew25
        replace hF := hF.to (rdb_e (z := z25) ew25.symm)
        exact x_iret (S := (Nat → Nat → Int)) (post := (fun a (u : Nat → Nat → Int) => XI G u ∧ FB (fun i k : Nat => (39 ≤ i ∧ i ≤ 57) ∨ (69 ≤ i ∧ i ≤ 71)) V u ∧ (f_s_tried x1 x2 V J Rr) (a, u))) (w1 := (fun u : Nat → Nat → Int => XW cy ad u J Rr)) (a := z25) C hr rfl dX11_tried_80 (by omega) V8 rfl ⟨hI8, hB8, hF _ rfl⟩
    · replace hF := hF.to (if_neg (fun hh => hh hc5))
      refine x_iconst C.1 (n := -1) dX11_tried_18 ?_
      exact x_iret (S := (Nat → Nat → Int)) (post := (fun a (u : Nat → Nat → Int) => XI G u ∧ FB (fun i k : Nat => (39 ≤ i ∧ i ≤ 57) ∨ (69 ≤ i ∧ i ≤ 71)) V u ∧ (f_s_tried x1 x2 V J Rr) (a, u))) (w1 := (fun u : Nat → Nat → Int => XW cy ad u J Rr)) (a := (-1)) C hr rfl dX11_tried_19 (by decide) V rfl ⟨hI, hB, hF _ rfl⟩
theorem dX11_cardOf_0 : decode cX11_cardOf 0 = .ok (.aload_n 0, 1) := by decide +kernel
theorem dX11_cardOf_1 : decode cX11_cardOf 1 = .ok (.getfield 95, 3) := by decide +kernel
theorem dX11_cardOf_4 : decode cX11_cardOf 4 = .ok (.ifCond .ne 6, 3) := by decide +kernel
theorem dX11_cardOf_7 : decode cX11_cardOf 7 = .ok (.bipush (-2), 2) := by decide +kernel
theorem dX11_cardOf_9 : decode cX11_cardOf 9 = .ok (.ireturn, 1) := by decide +kernel
theorem dX11_cardOf_10 : decode cX11_cardOf 10 = .ok (.aload_n 0, 1) := by decide +kernel
theorem dX11_cardOf_11 : decode cX11_cardOf 11 = .ok (.getfield 99, 3) := by decide +kernel
theorem dX11_cardOf_14 : decode cX11_cardOf 14 = .ok (.iconst (-1), 1) := by decide +kernel
theorem dX11_cardOf_15 : decode cX11_cardOf 15 = .ok (.if_icmp .ne 8, 3) := by decide +kernel
theorem dX11_cardOf_18 : decode cX11_cardOf 18 = .ok (.bipush (-3), 2) := by decide +kernel
theorem dX11_cardOf_20 : decode cX11_cardOf 20 = .ok (.goto 7, 3) := by decide +kernel
theorem dX11_cardOf_23 : decode cX11_cardOf 23 = .ok (.aload_n 0, 1) := by decide +kernel
theorem dX11_cardOf_24 : decode cX11_cardOf 24 = .ok (.getfield 99, 3) := by decide +kernel
theorem dX11_cardOf_27 : decode cX11_cardOf 27 = .ok (.ireturn, 1) := by decide +kernel
set_option maxRecDepth 100000 in
def f_s_cardOf (k0 : Nat) (V : Nat → Nat → Int) (J : Nat → Nat → Int) (Rr : Nat → Nat → Nat) : (Int) → Prop :=
  rdb (V k0 6) fun z1 => fct (0 ≤ z1 ∧ z1 ≤ 1) <| (if ¬ z1 = 0 then rdb (V k0 7) fun z3 => (if ¬ z3 = (-1) then rtn z3 else rtn ((-3))) else rtn ((-2)))
set_option maxHeartbeats 8000000 in
set_option maxRecDepth 100000 in
theorem s_cardOf (l : Launch) (D : va_G) (cy : Nat → ClassId) (ad : Nat → Nat) (G : Nat → Nat → Int) (V J : Nat → Nat → Int) (Rr : Nat → Nat → Nat) (hI : XI G V) (hJ : VJ J) (hR : XR Rr) (k0 : Nat) (hk0 : isPl k0) : xMi l D (xTY cy) yX11_cardOf cX11_cardOf 1 (some .int) 0 0 0 0 [.ref (ad k0)] (XW cy ad V J Rr) (fun _ : Unit => XW cy ad V J Rr) (fun a (u : Unit) => (f_s_cardOf k0 V J Rr) a) := by
  refine xMi.mk (lv0 := [(0, .ref (ad k0))]) (by decide) rfl (Nat.le_of_ble_eq_true rfl) (fun p e s m below meth c A C hr hnm hAe => ?_)
  have C : xC2 p s m _ meth c D A s.heap 1 cX11_cardOf RX11 (xTY cy) := C
  have hF := Imp.of_eq (f_s_cardOf.eq_def k0 V J Rr)
  refine x_aload_n C.1 dX11_cardOf_0 0 rfl ?_
  obtain ⟨z1, ez1, bz1⟩ := hI.rd k0 6 (x := 0) (y := 1) (rg_P hk0 6)
  replace hF := hF.to (rdb_e (z := z1) ez1)
  replace hF := hF.fc bz1
  refine x_getI C (N := 129) (i := k0) (Nat.lt_of_succ_lt hk0.1) hk0.2.1 vc_X5 wx_X5 6 (by decide) wf_X11_95 rfl dX11_cardOf_1 (a := z1) ez1 ?_
  refine x_if_ne C.1 (tgt := 10) dX11_cardOf_4 (by decide) (by omega) (fun hc2 => ?_) (fun hc2 => ?_)
  · replace hF := hF.to (if_pos hc2)
    refine x_aload_n C.1 dX11_cardOf_10 0 rfl ?_
    obtain ⟨z3, ez3, bz3⟩ := hI.rd k0 7 (x := -2147483648) (y := 2147483647) (rg_P hk0 7)
    replace hF := hF.to (rdb_e (z := z3) ez3)
    refine x_getI C (N := 129) (i := k0) (Nat.lt_of_succ_lt hk0.1) hk0.2.1 vc_X5 wx_X5 7 (by decide) wf_X11_99 rfl dX11_cardOf_11 (a := z3) ez3 ?_
    refine x_iconst C.1 (n := -1) dX11_cardOf_14 ?_
    refine x_icmp_ne C.1 (tgt := 23) dX11_cardOf_15 (by decide) (by omega) (by decide) (fun hc4 => ?_) (fun hc4 => ?_)
    · replace hF := hF.to (if_pos hc4)
      refine x_aload_n C.1 dX11_cardOf_23 0 rfl ?_
      refine x_getI C (N := 129) (i := k0) (Nat.lt_of_succ_lt hk0.1) hk0.2.1 vc_X5 wx_X5 7 (by decide) wf_X11_99 rfl dX11_cardOf_24 (a := z3) ez3 ?_
      exact x_iret (S := Unit) (post := (fun a (u : Unit) => (f_s_cardOf k0 V J Rr) a)) (w1 := (fun _ : Unit => XW cy ad V J Rr)) (a := z3) C hr rfl dX11_cardOf_27 (by omega) () rfl (hF _ rfl)
    · replace hF := hF.to (if_neg (fun hh => hh hc4))
      refine x_bipush C.1 (n := -3) dX11_cardOf_18 ?_
      refine x_goto C.1 (tgt := 27) dX11_cardOf_20 (by decide) ?_
      exact x_iret (S := Unit) (post := (fun a (u : Unit) => (f_s_cardOf k0 V J Rr) a)) (w1 := (fun _ : Unit => XW cy ad V J Rr)) (a := (-3)) C hr rfl dX11_cardOf_27 (by decide) () rfl (hF _ rfl)
  · replace hF := hF.to (if_neg (fun hh => hh hc2))
    refine x_bipush C.1 (n := -2) dX11_cardOf_7 ?_
    exact x_iret (S := Unit) (post := (fun a (u : Unit) => (f_s_cardOf k0 V J Rr) a)) (w1 := (fun _ : Unit => XW cy ad V J Rr)) (a := (-2)) C hr rfl dX11_cardOf_9 (by decide) () rfl (hF _ rfl)
theorem hd_yX11_cardOf : yX11_cardOf.cls ≠ "java/lang/invoke/MethodHandle" ∧ yX11_cardOf.cls ≠ "java/lang/invoke/VarHandle" ∧ (parseMethodDescriptor yX11_cardOf.desc).map (fun d => d.parameters.length) = some 1 := by decide +kernel
theorem dX11_plantIs_0 : decode cX11_plantIs 0 = .ok (.aload_n 0, 1) := by decide +kernel
theorem dX11_plantIs_1 : decode cX11_plantIs 1 = .ok (.getfield 10, 3) := by decide +kernel
theorem dX11_plantIs_4 : decode cX11_plantIs 4 = .ok (.iload_n 1, 1) := by decide +kernel
theorem dX11_plantIs_5 : decode cX11_plantIs 5 = .ok (.invokevirtual 91, 3) := by decide +kernel
theorem dX11_plantIs_8 : decode cX11_plantIs 8 = .ok (.ifCond .ne 5, 3) := by decide +kernel
theorem dX11_plantIs_11 : decode cX11_plantIs 11 = .ok (.iconst (-1), 1) := by decide +kernel
theorem dX11_plantIs_12 : decode cX11_plantIs 12 = .ok (.ireturn, 1) := by decide +kernel
theorem dX11_plantIs_13 : decode cX11_plantIs 13 = .ok (.aload_n 0, 1) := by decide +kernel
theorem dX11_plantIs_14 : decode cX11_plantIs 14 = .ok (.getfield 10, 3) := by decide +kernel
theorem dX11_plantIs_17 : decode cX11_plantIs 17 = .ok (.getfield 78, 3) := by decide +kernel
theorem dX11_plantIs_20 : decode cX11_plantIs 20 = .ok (.iload_n 1, 1) := by decide +kernel
theorem dX11_plantIs_21 : decode cX11_plantIs 21 = .ok (.aaload, 1) := by decide +kernel
theorem dX11_plantIs_22 : decode cX11_plantIs 22 = .ok (.astore_n 3, 1) := by decide +kernel
theorem dX11_plantIs_23 : decode cX11_plantIs 23 = .ok (.iload_n 2, 1) := by decide +kernel
theorem dX11_plantIs_24 : decode cX11_plantIs 24 = .ok (.bipush 10, 2) := by decide +kernel
theorem dX11_plantIs_26 : decode cX11_plantIs 26 = .ok (.isub, 1) := by decide +kernel
theorem dX11_plantIs_27 : decode cX11_plantIs 27 = .ok (.bipush 7, 2) := by decide +kernel
theorem dX11_plantIs_29 : decode cX11_plantIs 29 = .ok (.invokestatic 70, 3) := by decide +kernel
theorem dX11_plantIs_32 : decode cX11_plantIs 32 = .ok (.ifCond .eq 13, 3) := by decide +kernel
theorem dX11_plantIs_35 : decode cX11_plantIs 35 = .ok (.aload_n 3, 1) := by decide +kernel
theorem dX11_plantIs_36 : decode cX11_plantIs 36 = .ok (.getfield 171, 3) := by decide +kernel
theorem dX11_plantIs_39 : decode cX11_plantIs 39 = .ok (.iload_n 2, 1) := by decide +kernel
theorem dX11_plantIs_40 : decode cX11_plantIs 40 = .ok (.bipush 10, 2) := by decide +kernel
theorem dX11_plantIs_42 : decode cX11_plantIs 42 = .ok (.isub, 1) := by decide +kernel
theorem dX11_plantIs_43 : decode cX11_plantIs 43 = .ok (.iaload, 1) := by decide +kernel
theorem dX11_plantIs_44 : decode cX11_plantIs 44 = .ok (.ireturn, 1) := by decide +kernel
theorem dX11_plantIs_45 : decode cX11_plantIs 45 = .ok (.iload_n 2, 1) := by decide +kernel
theorem dX11_plantIs_46 : decode cX11_plantIs 46 = .ok (.tableswitch 85 0 6 #[42, 47, 52, 57, 62, 67, 80], 42) := by decide +kernel
theorem dX11_plantIs_88 : decode cX11_plantIs 88 = .ok (.aload_n 3, 1) := by decide +kernel
theorem dX11_plantIs_89 : decode cX11_plantIs 89 = .ok (.getfield 174, 3) := by decide +kernel
theorem dX11_plantIs_92 : decode cX11_plantIs 92 = .ok (.ireturn, 1) := by decide +kernel
theorem dX11_plantIs_93 : decode cX11_plantIs 93 = .ok (.aload_n 3, 1) := by decide +kernel
theorem dX11_plantIs_94 : decode cX11_plantIs 94 = .ok (.getfield 110, 3) := by decide +kernel
theorem dX11_plantIs_97 : decode cX11_plantIs 97 = .ok (.ireturn, 1) := by decide +kernel
theorem dX11_plantIs_98 : decode cX11_plantIs 98 = .ok (.aload_n 3, 1) := by decide +kernel
theorem dX11_plantIs_99 : decode cX11_plantIs 99 = .ok (.getfield 177, 3) := by decide +kernel
theorem dX11_plantIs_102 : decode cX11_plantIs 102 = .ok (.ireturn, 1) := by decide +kernel
theorem dX11_plantIs_103 : decode cX11_plantIs 103 = .ok (.aload_n 3, 1) := by decide +kernel
theorem dX11_plantIs_104 : decode cX11_plantIs 104 = .ok (.getfield 180, 3) := by decide +kernel
theorem dX11_plantIs_107 : decode cX11_plantIs 107 = .ok (.ireturn, 1) := by decide +kernel
theorem dX11_plantIs_108 : decode cX11_plantIs 108 = .ok (.aload_n 3, 1) := by decide +kernel
theorem dX11_plantIs_109 : decode cX11_plantIs 109 = .ok (.getfield 183, 3) := by decide +kernel
theorem dX11_plantIs_112 : decode cX11_plantIs 112 = .ok (.ireturn, 1) := by decide +kernel
theorem dX11_plantIs_113 : decode cX11_plantIs 113 = .ok (.aload_n 3, 1) := by decide +kernel
theorem dX11_plantIs_114 : decode cX11_plantIs 114 = .ok (.invokevirtual 186, 3) := by decide +kernel
theorem dX11_plantIs_117 : decode cX11_plantIs 117 = .ok (.ifCond .eq 7, 3) := by decide +kernel
theorem dX11_plantIs_120 : decode cX11_plantIs 120 = .ok (.iconst 1, 1) := by decide +kernel
theorem dX11_plantIs_121 : decode cX11_plantIs 121 = .ok (.goto 4, 3) := by decide +kernel
theorem dX11_plantIs_124 : decode cX11_plantIs 124 = .ok (.iconst 0, 1) := by decide +kernel
theorem dX11_plantIs_125 : decode cX11_plantIs 125 = .ok (.ireturn, 1) := by decide +kernel
theorem dX11_plantIs_126 : decode cX11_plantIs 126 = .ok (.aload_n 3, 1) := by decide +kernel
theorem dX11_plantIs_127 : decode cX11_plantIs 127 = .ok (.invokestatic 190, 3) := by decide +kernel
theorem dX11_plantIs_130 : decode cX11_plantIs 130 = .ok (.ireturn, 1) := by decide +kernel
theorem dX11_plantIs_131 : decode cX11_plantIs 131 = .ok (.iconst (-1), 1) := by decide +kernel
theorem dX11_plantIs_132 : decode cX11_plantIs 132 = .ok (.ireturn, 1) := by decide +kernel
set_option maxRecDepth 100000 in
def f_s_plantIs (x1 : Int) (x2 : Int) (V : Nat → Nat → Int) (J : Nat → Nat → Int) (Rr : Nat → Nat → Nat) : (Int) → Prop :=
  calR (f_s_isPlant 1 x1 V J Rr) fun z1 => fct (0 ≤ z1 ∧ z1 ≤ 1) <| (if ¬ z1 = 0 then rdb (1 + 3 + 2 * x1.toNat) fun c4 => rdb (wr (x2 - 10)) fun z5 => calR (f_s_isPlace z5 7) fun z6 => fct (0 ≤ z6 ∧ z6 ≤ 1) <| (if z6 = 0 then (if x2 = 0 then rdb (V c4 1) fun z9 => rtn z9 else (if x2 = 1 then rdb (V c4 2) fun z11 => rtn z11 else (if x2 = 2 then rdb (V c4 3) fun z13 => rtn z13 else (if x2 = 3 then rdb (V c4 4) fun z15 => rtn z15 else (if x2 = 4 then rdb (V c4 5) fun z17 => rtn z17 else (if x2 = 5 then calR (f_s_isDeadP c4 V J Rr) fun z19 => fct (0 ≤ z19 ∧ z19 ≤ 1) <| (if z19 = 0 then rtn 0 else rtn 1) else (if x2 = 6 then calR (f_s_cardOf c4 V J Rr) fun z22 => rtn z22 else rtn ((-1))))))))) else rdb (wr (x2 - 10)) fun z24 => rdb (V (c4 + 1) z24.toNat) fun z25 => rtn z25) else rtn ((-1)))
set_option maxHeartbeats 8000000 in
set_option maxRecDepth 100000 in
theorem s_plantIs (l : Launch) (D : va_G) (cy : Nat → ClassId) (ad : Nat → Nat) (G : Nat → Nat → Int) (V J : Nat → Nat → Int) (Rr : Nat → Nat → Nat) (hI : XI G V) (hJ : VJ J) (hR : XR Rr) (x1 : Int) (bx1 : -2147483648 ≤ x1 ∧ x1 ≤ 2147483647) (x2 : Int) (bx2 : -2147483648 ≤ x2 ∧ x2 ≤ 2147483647) : xMi l D (xTY cy) yX11_plantIs cX11_plantIs 4 (some .int) 2 42 0 0 [.ref (ad 0), vI x1, vI x2] (XW cy ad V J Rr) (fun _ : Unit => XW cy ad V J Rr) (fun a (u : Unit) => (f_s_plantIs x1 x2 V J Rr) a) := by
  refine xMi.mk (lv0 := [(0, .ref (ad 0)), (1, vI x1), (2, vI x2)]) (by decide) rfl (Nat.le_of_ble_eq_true rfl) (fun p e s m below meth c A C hr hnm hAe => ?_)
  have C : xC2 p s m _ meth c D A s.heap 4 cX11_plantIs RX11 (xTY cy) := C
  have hF := Imp.of_eq (f_s_plantIs.eq_def x1 x2 V J Rr)
  refine x_aload_n C.1 dX11_plantIs_0 0 rfl ?_
  refine x_getA C (N := 129) (i := 0) (by decide) rfl vc_X11 wx_X11 0 (by decide) wf_X11_10 (a := 1) rfl dX11_plantIs_1 ?_
  refine x_iload_n C.1 dX11_plantIs_4 1 rfl ?_
  refine x_callVi C (As := [vI x1]) (rest := []) 1 (xw_at (N := 129) (i := 1) (by omega) (xd_L (Or.inl rfl))) vc_X3 (s_isPlant l D cy ad G V J Rr hI hJ hR 1 (Or.inl rfl) x1 ⟨by omega, by omega⟩) (l1 := []) (l2 := []) (List.append_nil _).symm (w2 := fun _ => XW cy ad V J Rr) (fun _ => List.append_nil _) rfl wm_yX3_isPlant wn_X3 wl_X11_91 wi_yX3_isPlant we_yX3_isPlant hd_yX3_isPlant rfl ⟨Nat.le_of_ble_eq_true rfl, Nat.le_of_ble_eq_true rfl⟩ (Nat.le_of_ble_eq_true rfl) ⟨Nat.le_of_ble_eq_true rfl, Nat.le_of_ble_eq_true rfl⟩ dX11_plantIs_5 (fun z1 u1 bz1 h1 => ?_)
  obtain ⟨hon1, hFc1⟩ := h1
  replace hF := calR_i hF hFc1
  replace hF := hF.fc hon1.r
  have bq1 := Sp.r hon1
  refine x_if_ne C.1 (tgt := 13) dX11_plantIs_8 (by decide) (by omega) (fun hc2 => ?_) (fun hc2 => ?_)
  · replace hF := hF.to (if_pos hc2)
    have hon3 := Sp.on hon1 (by omega)
    refine x_aload_n C.1 dX11_plantIs_13 0 rfl ?_
    refine x_getA C (N := 129) (i := 0) (by decide) rfl vc_X11 wx_X11 0 (by decide) wf_X11_10 (a := 1) rfl dX11_plantIs_14 ?_
    refine x_getA C (N := 129) (i := 1) (by omega) (xd_L (Or.inl rfl)) vc_X3 wx_X3 0 (by decide) wf_X11_78 (a := 2) rfl dX11_plantIs_17 ?_
    refine x_iload_n C.1 dX11_plantIs_20 1 rfl ?_
    obtain ⟨c4, ec4, hc4⟩ : ∃ cx : Nat, 1 + 3 + 2 * x1.toNat = cx ∧ isPl cx := ⟨_, rfl, isPl_L (Or.inl rfl) (by omega)⟩
    replace hF := hF.to (rdb_e (z := c4) ec4)
    refine x_aldS C (N := 129) (i := 2) (q := x1) (t := 4) rfl (by omega) (xd_La (Or.inl rfl)) (by omega) (by decide) dX11_plantIs_21 (a := c4) ec4 ?_
    refine x_astore_n C.1 (lv' := [(3, .ref (ad c4)), (0, .ref (ad 0)), (1, vI x1), (2, vI x2)]) dX11_plantIs_22 (by decide) rfl ?_
    refine x_iload_n C.1 dX11_plantIs_23 3 rfl ?_
    refine x_bipush C.1 (n := 10) dX11_plantIs_24 ?_
    refine x_isub C.1 (v := x2 - 10) (by omega) dX11_plantIs_26 ?_
    refine x_wrapg ?_
    intro z5 bz5 ew5
    replace hF := hF.to (rdb_e (z := z5) ew5.symm)
    refine x_bipush C.1 (n := 7) dX11_plantIs_27 ?_
    refine x_callSi C (As := [vI z5, vI 7]) (rest := []) (s_isPlace l D cy z5 ⟨by omega, by omega⟩ 7 ⟨by decide, by decide⟩) (l1 := []) (l2 := _) rfl (w2 := fun _ => _) (fun _ => rfl) rfl wm_yX11_isPlace wn_X11 wl_X11_70 wi_yX11_isPlace hd_yX11_isPlace rfl ⟨Nat.le_of_ble_eq_true rfl, Nat.le_of_ble_eq_true rfl⟩ (Nat.le_of_ble_eq_true rfl) ⟨Nat.le_of_ble_eq_true rfl, Nat.le_of_ble_eq_true rfl⟩ dX11_plantIs_29 (fun z6 u6 bz6 h6 => ?_)
    obtain ⟨bq6, hx6_0, hFc6⟩ := h6
    replace hF := calR_i hF hFc6
    replace hF := hF.fc bq6
    refine x_if_eq C.1 (tgt := 45) dX11_plantIs_32 (by decide) (by omega) (fun hc7 => ?_) (fun hc7 => ?_)
    · replace hF := hF.to (if_pos hc7)
      refine x_iload_n C.1 dX11_plantIs_45 3 rfl ?_
      by_cases hs8 : x2 = 0
      · replace hF := hF.to (if_pos hs8)
        refine x_tabIn C.1 0 hs8 (by decide) (tgt := 88) dX11_plantIs_46 (by decide) (by decide) rfl (by decide) ?_
        refine x_aload_n C.1 dX11_plantIs_88 0 rfl ?_
        obtain ⟨z9, ez9, bz9⟩ := hI.rd c4 1 (x := -2147483648) (y := 2147483647) (rg_P hc4 1)
        replace hF := hF.to (rdb_e (z := z9) ez9)
        refine x_getI C (N := 129) (i := c4) (Nat.lt_of_succ_lt hc4.1) hc4.2.1 vc_X5 wx_X5 1 (by decide) wf_X11_174 rfl dX11_plantIs_89 (a := z9) ez9 ?_
        exact x_iret (S := Unit) (post := (fun a (u : Unit) => (f_s_plantIs x1 x2 V J Rr) a)) (w1 := (fun _ : Unit => XW cy ad V J Rr)) (a := z9) C hr rfl dX11_plantIs_92 (by omega) () rfl (hF _ rfl)
      replace hF := hF.to (if_neg hs8)
      by_cases hs10 : x2 = 1
      · replace hF := hF.to (if_pos hs10)
        refine x_tabIn C.1 1 hs10 (by decide) (tgt := 93) dX11_plantIs_46 (by decide) (by decide) rfl (by decide) ?_
        refine x_aload_n C.1 dX11_plantIs_93 0 rfl ?_
        obtain ⟨z11, ez11, bz11⟩ := hI.rd c4 2 (x := -2147483648) (y := 2147483647) (rg_P hc4 2)
        replace hF := hF.to (rdb_e (z := z11) ez11)
        refine x_getI C (N := 129) (i := c4) (Nat.lt_of_succ_lt hc4.1) hc4.2.1 vc_X5 wx_X5 2 (by decide) wf_X11_110 rfl dX11_plantIs_94 (a := z11) ez11 ?_
        exact x_iret (S := Unit) (post := (fun a (u : Unit) => (f_s_plantIs x1 x2 V J Rr) a)) (w1 := (fun _ : Unit => XW cy ad V J Rr)) (a := z11) C hr rfl dX11_plantIs_97 (by omega) () rfl (hF _ rfl)
      replace hF := hF.to (if_neg hs10)
      by_cases hs12 : x2 = 2
      · replace hF := hF.to (if_pos hs12)
        refine x_tabIn C.1 2 hs12 (by decide) (tgt := 98) dX11_plantIs_46 (by decide) (by decide) rfl (by decide) ?_
        refine x_aload_n C.1 dX11_plantIs_98 0 rfl ?_
        obtain ⟨z13, ez13, bz13⟩ := hI.rd c4 3 (x := -2147483648) (y := 2147483647) (rg_P hc4 3)
        replace hF := hF.to (rdb_e (z := z13) ez13)
        refine x_getI C (N := 129) (i := c4) (Nat.lt_of_succ_lt hc4.1) hc4.2.1 vc_X5 wx_X5 3 (by decide) wf_X11_177 rfl dX11_plantIs_99 (a := z13) ez13 ?_
        exact x_iret (S := Unit) (post := (fun a (u : Unit) => (f_s_plantIs x1 x2 V J Rr) a)) (w1 := (fun _ : Unit => XW cy ad V J Rr)) (a := z13) C hr rfl dX11_plantIs_102 (by omega) () rfl (hF _ rfl)
      replace hF := hF.to (if_neg hs12)
      by_cases hs14 : x2 = 3
      · replace hF := hF.to (if_pos hs14)
        refine x_tabIn C.1 3 hs14 (by decide) (tgt := 103) dX11_plantIs_46 (by decide) (by decide) rfl (by decide) ?_
        refine x_aload_n C.1 dX11_plantIs_103 0 rfl ?_
        obtain ⟨z15, ez15, bz15⟩ := hI.rd c4 4 (x := -2147483648) (y := 2147483647) (rg_P hc4 4)
        replace hF := hF.to (rdb_e (z := z15) ez15)
        refine x_getI C (N := 129) (i := c4) (Nat.lt_of_succ_lt hc4.1) hc4.2.1 vc_X5 wx_X5 4 (by decide) wf_X11_180 rfl dX11_plantIs_104 (a := z15) ez15 ?_
        exact x_iret (S := Unit) (post := (fun a (u : Unit) => (f_s_plantIs x1 x2 V J Rr) a)) (w1 := (fun _ : Unit => XW cy ad V J Rr)) (a := z15) C hr rfl dX11_plantIs_107 (by omega) () rfl (hF _ rfl)
      replace hF := hF.to (if_neg hs14)
      by_cases hs16 : x2 = 4
      · replace hF := hF.to (if_pos hs16)
        refine x_tabIn C.1 4 hs16 (by decide) (tgt := 108) dX11_plantIs_46 (by decide) (by decide) rfl (by decide) ?_
        refine x_aload_n C.1 dX11_plantIs_108 0 rfl ?_
        obtain ⟨z17, ez17, bz17⟩ := hI.rd c4 5 (x := -2147483648) (y := 2147483647) (rg_P hc4 5)
        replace hF := hF.to (rdb_e (z := z17) ez17)
        refine x_getI C (N := 129) (i := c4) (Nat.lt_of_succ_lt hc4.1) hc4.2.1 vc_X5 wx_X5 5 (by decide) wf_X11_183 rfl dX11_plantIs_109 (a := z17) ez17 ?_
        exact x_iret (S := Unit) (post := (fun a (u : Unit) => (f_s_plantIs x1 x2 V J Rr) a)) (w1 := (fun _ : Unit => XW cy ad V J Rr)) (a := z17) C hr rfl dX11_plantIs_112 (by omega) () rfl (hF _ rfl)
      replace hF := hF.to (if_neg hs16)
      by_cases hs18 : x2 = 5
      · replace hF := hF.to (if_pos hs18)
        refine x_tabIn C.1 5 hs18 (by decide) (tgt := 113) dX11_plantIs_46 (by decide) (by decide) rfl (by decide) ?_
        refine x_aload_n C.1 dX11_plantIs_113 0 rfl ?_
        refine x_callVi C (As := []) (rest := []) c4 (xw_at (N := 129) (i := c4) (Nat.lt_of_succ_lt hc4.1) hc4.2.1) vc_X5 (s_isDeadP l D cy ad G V J Rr hI hJ hR c4 hc4) (l1 := []) (l2 := []) (List.append_nil _).symm (w2 := fun _ => XW cy ad V J Rr) (fun _ => List.append_nil _) rfl wm_yX5_isDead wn_X5 wl_X11_186 wi_yX5_isDead we_yX5_isDead hd_yX5_isDead rfl ⟨Nat.le_of_ble_eq_true rfl, Nat.le_of_ble_eq_true rfl⟩ (Nat.le_of_ble_eq_true rfl) ⟨Nat.le_of_ble_eq_true rfl, Nat.le_of_ble_eq_true rfl⟩ dX11_plantIs_114 (fun z19 u19 bz19 h19 => ?_)
        obtain ⟨bq19, hFc19⟩ := h19
        replace hF := calR_i hF hFc19
        replace hF := hF.fc bq19
        refine x_if_eq C.1 (tgt := 124) dX11_plantIs_117 (by decide) (by omega) (fun hc20 => ?_) (fun hc20 => ?_)
        · replace hF := hF.to (if_pos hc20)
          refine x_iconst C.1 (n := 0) dX11_plantIs_124 ?_
          exact x_iret (S := Unit) (post := (fun a (u : Unit) => (f_s_plantIs x1 x2 V J Rr) a)) (w1 := (fun _ : Unit => XW cy ad V J Rr)) (a := 0) C hr rfl dX11_plantIs_125 (by decide) () rfl (hF _ rfl)
        · replace hF := hF.to (if_neg hc20)
          refine x_iconst C.1 (n := 1) dX11_plantIs_120 ?_
          refine x_goto C.1 (tgt := 125) dX11_plantIs_121 (by decide) ?_
          exact x_iret (S := Unit) (post := (fun a (u : Unit) => (f_s_plantIs x1 x2 V J Rr) a)) (w1 := (fun _ : Unit => XW cy ad V J Rr)) (a := 1) C hr rfl dX11_plantIs_125 (by decide) () rfl (hF _ rfl)
      replace hF := hF.to (if_neg hs18)
      by_cases hs21 : x2 = 6
      · replace hF := hF.to (if_pos hs21)
        refine x_tabIn C.1 6 hs21 (by decide) (tgt := 126) dX11_plantIs_46 (by decide) (by decide) rfl (by decide) ?_
        refine x_aload_n C.1 dX11_plantIs_126 0 rfl ?_
        refine x_callSi C (As := [.ref (ad c4)]) (rest := []) (s_cardOf l D cy ad G V J Rr hI hJ hR c4 hc4) (l1 := []) (l2 := []) (List.append_nil _).symm (w2 := fun _ => XW cy ad V J Rr) (fun _ => List.append_nil _) rfl wm_yX11_cardOf wn_X11 wl_X11_190 wi_yX11_cardOf hd_yX11_cardOf rfl ⟨Nat.le_of_ble_eq_true rfl, Nat.le_of_ble_eq_true rfl⟩ (Nat.le_of_ble_eq_true rfl) ⟨Nat.le_of_ble_eq_true rfl, Nat.le_of_ble_eq_true rfl⟩ dX11_plantIs_127 (fun z22 u22 bz22 h22 => ?_)
        have hFc22 := h22
        replace hF := calR_i hF hFc22
        exact x_iret (S := Unit) (post := (fun a (u : Unit) => (f_s_plantIs x1 x2 V J Rr) a)) (w1 := (fun _ : Unit => XW cy ad V J Rr)) (a := z22) C hr rfl dX11_plantIs_130 (by omega) () rfl (hF _ rfl)
      replace hF := hF.to (if_neg hs21)
      refine x_tabOut C.1 (tgt := 131) (by omega) dX11_plantIs_46 (by omega) (by decide) ?_
      refine x_iconst C.1 (n := -1) dX11_plantIs_131 ?_
      exact x_iret (S := Unit) (post := (fun a (u : Unit) => (f_s_plantIs x1 x2 V J Rr) a)) (w1 := (fun _ : Unit => XW cy ad V J Rr)) (a := (-1)) C hr rfl dX11_plantIs_132 (by decide) () rfl (hF _ rfl)
    · replace hF := hF.to (if_neg hc7)
      have hon23 := Sq.on hx6_0 (by omega)
      refine x_aload_n C.1 dX11_plantIs_35 0 rfl ?_
      refine x_getA C (N := 129) (i := c4) (Nat.lt_of_succ_lt hc4.1) hc4.2.1 vc_X5 wx_X5 8 (by decide) wf_X11_171 (a := c4 + 1) rfl dX11_plantIs_36 ?_
      refine x_iload_n C.1 dX11_plantIs_39 3 rfl ?_
      refine x_bipush C.1 (n := 10) dX11_plantIs_40 ?_
      refine x_isub C.1 (v := x2 - 10) (by omega) dX11_plantIs_42 ?_
      refine x_wrapg ?_
      intro z24 bz24 ew24
      replace hF := hF.to (rdb_e (z := z24) ew24.symm)
      obtain ⟨z25, ez25, bz25⟩ := hI.rd (c4 + 1) z24.toNat (x := -2147483648) (y := 2147483647) (rg_K hc4 _)
      replace hF := hF.to (rdb_e (z := z25) ez25)
      refine x_iald C (N := 129) (i := c4 + 1) (q := z24) hc4.1 hc4.2.2 (by omega) (by decide) dX11_plantIs_43 (a := z25) ez25 ?_
      exact x_iret (S := Unit) (post := (fun a (u : Unit) => (f_s_plantIs x1 x2 V J Rr) a)) (w1 := (fun _ : Unit => XW cy ad V J Rr)) (a := z25) C hr rfl dX11_plantIs_44 (by omega) () rfl (hF _ rfl)
  · replace hF := hF.to (if_neg (fun hh => hh hc2))
    refine x_iconst C.1 (n := -1) dX11_plantIs_11 ?_
    exact x_iret (S := Unit) (post := (fun a (u : Unit) => (f_s_plantIs x1 x2 V J Rr) a)) (w1 := (fun _ : Unit => XW cy ad V J Rr)) (a := (-1)) C hr rfl dX11_plantIs_12 (by decide) () rfl (hF _ rfl)
theorem dX11_gives_0 : decode cX11_gives 0 = .ok (.aload_n 0, 1) := by decide +kernel
theorem dX11_gives_1 : decode cX11_gives 1 = .ok (.getfield 10, 3) := by decide +kernel
theorem dX11_gives_4 : decode cX11_gives 4 = .ok (.iload_n 1, 1) := by decide +kernel
theorem dX11_gives_5 : decode cX11_gives 5 = .ok (.invokevirtual 168, 3) := by decide +kernel
theorem dX11_gives_8 : decode cX11_gives 8 = .ok (.ifCond .eq 14, 3) := by decide +kernel
theorem dX11_gives_11 : decode cX11_gives 11 = .ok (.aload_n 0, 1) := by decide +kernel
theorem dX11_gives_12 : decode cX11_gives 12 = .ok (.getfield 10, 3) := by decide +kernel
theorem dX11_gives_15 : decode cX11_gives 15 = .ok (.iload_n 2, 1) := by decide +kernel
theorem dX11_gives_16 : decode cX11_gives 16 = .ok (.invokevirtual 91, 3) := by decide +kernel
theorem dX11_gives_19 : decode cX11_gives 19 = .ok (.ifCond .ne 5, 3) := by decide +kernel
theorem dX11_gives_22 : decode cX11_gives 22 = .ok (.iconst (-1), 1) := by decide +kernel
theorem dX11_gives_23 : decode cX11_gives 23 = .ok (.ireturn, 1) := by decide +kernel
theorem dX11_gives_24 : decode cX11_gives 24 = .ok (.aload_n 0, 1) := by decide +kernel
theorem dX11_gives_25 : decode cX11_gives 25 = .ok (.getfield 10, 3) := by decide +kernel
theorem dX11_gives_28 : decode cX11_gives 28 = .ok (.iload_n 2, 1) := by decide +kernel
theorem dX11_gives_29 : decode cX11_gives 29 = .ok (.invokevirtual 103, 3) := by decide +kernel
theorem dX11_gives_32 : decode cX11_gives 32 = .ok (.ifCond .eq 19, 3) := by decide +kernel
theorem dX11_gives_35 : decode cX11_gives 35 = .ok (.aload_n 0, 1) := by decide +kernel
theorem dX11_gives_36 : decode cX11_gives 36 = .ok (.getfield 34, 3) := by decide +kernel
theorem dX11_gives_39 : decode cX11_gives 39 = .ok (.aload_n 0, 1) := by decide +kernel
theorem dX11_gives_40 : decode cX11_gives 40 = .ok (.getfield 10, 3) := by decide +kernel
theorem dX11_gives_43 : decode cX11_gives 43 = .ok (.iload_n 1, 1) := by decide +kernel
theorem dX11_gives_44 : decode cX11_gives 44 = .ok (.iload_n 2, 1) := by decide +kernel
theorem dX11_gives_45 : decode cX11_gives 45 = .ok (.invokevirtual 194, 3) := by decide +kernel
theorem dX11_gives_48 : decode cX11_gives 48 = .ok (.goto 4, 3) := by decide +kernel
theorem dX11_gives_51 : decode cX11_gives 51 = .ok (.iconst 0, 1) := by decide +kernel
theorem dX11_gives_52 : decode cX11_gives 52 = .ok (.ireturn, 1) := by decide +kernel
set_option maxRecDepth 100000 in
def f_s_gives (x1 : Int) (x2 : Int) (V : Nat → Nat → Int) (J : Nat → Nat → Int) (Rr : Nat → Nat → Nat) : (Int × (Nat → Nat → Int)) → Prop :=
  calR (f_s_isPerson 1 x1 V J Rr) fun z1 => fct (0 ≤ z1 ∧ z1 ≤ 1) <| (if z1 = 0 then rtn ((-1), V) else calR (f_s_isPlant 1 x2 V J Rr) fun z4 => fct (0 ≤ z4 ∧ z4 ≤ 1) <| (if ¬ z4 = 0 then calR (f_s_isAlive 1 x2 V J Rr) fun z7 => fct (0 ≤ z7 ∧ z7 ≤ 1) <| (if z7 = 0 then rtn (0, V) else calVX (fun i k : Nat => (69 ≤ i ∧ i ≤ 71)) V (f_s_gift 1 x1 x2 V J Rr) fun z10 V10 => fct (0 ≤ z10 ∧ z10 ≤ 999) <| rtn (z10, V10)) else rtn ((-1), V)))
set_option maxHeartbeats 8000000 in
set_option maxRecDepth 100000 in
theorem s_gives (l : Launch) (D : va_G) (cy : Nat → ClassId) (ad : Nat → Nat) (G : Nat → Nat → Int) (V J : Nat → Nat → Int) (Rr : Nat → Nat → Nat) (hI : XI G V) (hJ : VJ J) (hR : XR Rr) (x1 : Int) (bx1 : -2147483648 ≤ x1 ∧ x1 ≤ 2147483647) (x2 : Int) (bx2 : -2147483648 ≤ x2 ∧ x2 ≤ 2147483647) : xMi l D (xTY cy) yX11_gives cX11_gives 3 (some .int) 4 100 0 0 [.ref (ad 0), vI x1, vI x2] (XW cy ad V J Rr) (fun u : Nat → Nat → Int => XW cy ad u J Rr) (fun a (u : Nat → Nat → Int) => XI G u ∧ FB (fun i k : Nat => (69 ≤ i ∧ i ≤ 71)) V u ∧ (f_s_gives x1 x2 V J Rr) (a, u)) := by
  refine xMi.mk (lv0 := [(0, .ref (ad 0)), (1, vI x1), (2, vI x2)]) (by decide) rfl (Nat.le_of_ble_eq_true rfl) (fun p e s m below meth c A C hr hnm hAe => ?_)
  have C : xC2 p s m _ meth c D A s.heap 3 cX11_gives RX11 (xTY cy) := C
  have hB : FB (fun i k : Nat => (69 ≤ i ∧ i ≤ 71)) V V := FB.rf _ _
  have hF := Imp.of_eq (f_s_gives.eq_def x1 x2 V J Rr)
  refine x_aload_n C.1 dX11_gives_0 0 rfl ?_
  refine x_getA C (N := 129) (i := 0) (by decide) rfl vc_X11 wx_X11 0 (by decide) wf_X11_10 (a := 1) rfl dX11_gives_1 ?_
  refine x_iload_n C.1 dX11_gives_4 1 rfl ?_
  refine x_callVi C (As := [vI x1]) (rest := []) 1 (xw_at (N := 129) (i := 1) (by omega) (xd_L (Or.inl rfl))) vc_X3 (s_isPerson l D cy ad G V J Rr hI hJ hR 1 (Or.inl rfl) x1 ⟨by omega, by omega⟩) (l1 := []) (l2 := []) (List.append_nil _).symm (w2 := fun _ => XW cy ad V J Rr) (fun _ => List.append_nil _) rfl wm_yX3_isPerson wn_X3 wl_X11_168 wi_yX3_isPerson we_yX3_isPerson hd_yX3_isPerson rfl ⟨Nat.le_of_ble_eq_true rfl, Nat.le_of_ble_eq_true rfl⟩ (Nat.le_of_ble_eq_true rfl) ⟨Nat.le_of_ble_eq_true rfl, Nat.le_of_ble_eq_true rfl⟩ dX11_gives_5 (fun z1 u1 bz1 h1 => ?_)
  obtain ⟨hon1, hFc1⟩ := h1
  replace hF := calR_i hF hFc1
  replace hF := hF.fc hon1.r
  have bq1 := Sp.r hon1
  refine x_if_eq C.1 (tgt := 22) dX11_gives_8 (by decide) (by omega) (fun hc2 => ?_) (fun hc2 => ?_)
  · replace hF := hF.to (if_pos hc2)
    refine x_iconst C.1 (n := -1) dX11_gives_22 ?_
    exact x_iret (S := (Nat → Nat → Int)) (post := (fun a (u : Nat → Nat → Int) => XI G u ∧ FB (fun i k : Nat => (69 ≤ i ∧ i ≤ 71)) V u ∧ (f_s_gives x1 x2 V J Rr) (a, u))) (w1 := (fun u : Nat → Nat → Int => XW cy ad u J Rr)) (a := (-1)) C hr rfl dX11_gives_23 (by decide) V rfl ⟨hI, hB, hF _ rfl⟩
  · replace hF := hF.to (if_neg hc2)
    have hon3 := Sp.on hon1 (by omega)
    refine x_aload_n C.1 dX11_gives_11 0 rfl ?_
    refine x_getA C (N := 129) (i := 0) (by decide) rfl vc_X11 wx_X11 0 (by decide) wf_X11_10 (a := 1) rfl dX11_gives_12 ?_
    refine x_iload_n C.1 dX11_gives_15 2 rfl ?_
    refine x_callVi C (As := [vI x2]) (rest := []) 1 (xw_at (N := 129) (i := 1) (by omega) (xd_L (Or.inl rfl))) vc_X3 (s_isPlant l D cy ad G V J Rr hI hJ hR 1 (Or.inl rfl) x2 ⟨by omega, by omega⟩) (l1 := []) (l2 := []) (List.append_nil _).symm (w2 := fun _ => XW cy ad V J Rr) (fun _ => List.append_nil _) rfl wm_yX3_isPlant wn_X3 wl_X11_91 wi_yX3_isPlant we_yX3_isPlant hd_yX3_isPlant rfl ⟨Nat.le_of_ble_eq_true rfl, Nat.le_of_ble_eq_true rfl⟩ (Nat.le_of_ble_eq_true rfl) ⟨Nat.le_of_ble_eq_true rfl, Nat.le_of_ble_eq_true rfl⟩ dX11_gives_16 (fun z4 u4 bz4 h4 => ?_)
    obtain ⟨hon4, hFc4⟩ := h4
    replace hF := calR_i hF hFc4
    replace hF := hF.fc hon4.r
    have bq4 := Sp.r hon4
    refine x_if_ne C.1 (tgt := 24) dX11_gives_19 (by decide) (by omega) (fun hc5 => ?_) (fun hc5 => ?_)
    · replace hF := hF.to (if_pos hc5)
      have hon6 := Sp.on hon4 (by omega)
      refine x_aload_n C.1 dX11_gives_24 0 rfl ?_
      refine x_getA C (N := 129) (i := 0) (by decide) rfl vc_X11 wx_X11 0 (by decide) wf_X11_10 (a := 1) rfl dX11_gives_25 ?_
      refine x_iload_n C.1 dX11_gives_28 2 rfl ?_
      refine x_callVi C (As := [vI x2]) (rest := []) 1 (xw_at (N := 129) (i := 1) (by omega) (xd_L (Or.inl rfl))) vc_X3 (s_isAlive l D cy ad G V J Rr hI hJ hR 1 (Or.inl rfl) x2 ⟨by omega, by omega⟩) (l1 := []) (l2 := []) (List.append_nil _).symm (w2 := fun _ => XW cy ad V J Rr) (fun _ => List.append_nil _) rfl wm_yX3_isAlive wn_X3 wl_X11_103 wi_yX3_isAlive we_yX3_isAlive hd_yX3_isAlive rfl ⟨Nat.le_of_ble_eq_true rfl, Nat.le_of_ble_eq_true rfl⟩ (Nat.le_of_ble_eq_true rfl) ⟨Nat.le_of_ble_eq_true rfl, Nat.le_of_ble_eq_true rfl⟩ dX11_gives_29 (fun z7 u7 bz7 h7 => ?_)
      obtain ⟨hon7, hFc7⟩ := h7
      replace hF := calR_i hF hFc7
      replace hF := hF.fc hon7.r
      have bq7 := Sp.r hon7
      refine x_if_eq C.1 (tgt := 51) dX11_gives_32 (by decide) (by omega) (fun hc8 => ?_) (fun hc8 => ?_)
      · replace hF := hF.to (if_pos hc8)
        refine x_iconst C.1 (n := 0) dX11_gives_51 ?_
        exact x_iret (S := (Nat → Nat → Int)) (post := (fun a (u : Nat → Nat → Int) => XI G u ∧ FB (fun i k : Nat => (69 ≤ i ∧ i ≤ 71)) V u ∧ (f_s_gives x1 x2 V J Rr) (a, u))) (w1 := (fun u : Nat → Nat → Int => XW cy ad u J Rr)) (a := 0) C hr rfl dX11_gives_52 (by decide) V rfl ⟨hI, hB, hF _ rfl⟩
      · replace hF := hF.to (if_neg hc8)
        have hon9 := Sp.on hon7 (by omega)
        refine x_aload_n C.1 dX11_gives_35 0 rfl ?_
        refine x_getA C (N := 129) (i := 0) (by decide) rfl vc_X11 wx_X11 5 (by decide) wf_X11_34 (a := 60) rfl dX11_gives_36 ?_
        refine x_aload_n C.1 dX11_gives_39 0 rfl ?_
        refine x_getA C (N := 129) (i := 0) (by decide) rfl vc_X11 wx_X11 0 (by decide) wf_X11_10 (a := 1) rfl dX11_gives_40 ?_
        refine x_iload_n C.1 dX11_gives_43 1 rfl ?_
        refine x_iload_n C.1 dX11_gives_44 2 rfl ?_
        refine x_callVi C (As := [.ref (ad 1), vI x1, vI x2]) (rest := []) 60 (xw_at (N := 129) (i := 60) (by decide) rfl) vc_X1 (s_gift l D cy ad G V J Rr hI hJ hR 1 (Or.inl rfl) x1 ⟨by omega, by omega⟩ x2 ⟨by omega, by omega⟩) (l1 := []) (l2 := []) (List.append_nil _).symm (w2 := fun u : Nat → Nat → Int => XW cy ad u J Rr) (fun _ => List.append_nil _) rfl wm_yX1_gift wn_X1 wl_X11_194 wi_yX1_gift we_yX1_gift hd_yX1_gift rfl ⟨Nat.le_of_ble_eq_true rfl, Nat.le_of_ble_eq_true rfl⟩ (Nat.le_of_ble_eq_true rfl) ⟨Nat.le_of_ble_eq_true rfl, Nat.le_of_ble_eq_true rfl⟩ dX11_gives_45 (fun z10 V10 bz10 h10 => ?_)
        obtain ⟨hI10, bq10, hBc10, hFc10⟩ := h10
        replace hF := calVX_i hF hFc10 hBc10
        replace hF := hF.fc bq10
        have hB10 := hB.tr hBc10 (fun i k h => (h))
        refine x_goto C.1 (tgt := 52) dX11_gives_48 (by decide) ?_
        exact x_iret (S := (Nat → Nat → Int)) (post := (fun a (u : Nat → Nat → Int) => XI G u ∧ FB (fun i k : Nat => (69 ≤ i ∧ i ≤ 71)) V u ∧ (f_s_gives x1 x2 V J Rr) (a, u))) (w1 := (fun u : Nat → Nat → Int => XW cy ad u J Rr)) (a := z10) C hr rfl dX11_gives_52 (by omega) V10 rfl ⟨hI10, hB10, hF _ rfl⟩
    · replace hF := hF.to (if_neg (fun hh => hh hc5))
      refine x_iconst C.1 (n := -1) dX11_gives_22 ?_
      exact x_iret (S := (Nat → Nat → Int)) (post := (fun a (u : Nat → Nat → Int) => XI G u ∧ FB (fun i k : Nat => (69 ≤ i ∧ i ≤ 71)) V u ∧ (f_s_gives x1 x2 V J Rr) (a, u))) (w1 := (fun u : Nat → Nat → Int => XW cy ad u J Rr)) (a := (-1)) C hr rfl dX11_gives_23 (by decide) V rfl ⟨hI, hB, hF _ rfl⟩
theorem hd_yX11_canReckon : yX11_canReckon.cls ≠ "java/lang/invoke/MethodHandle" ∧ yX11_canReckon.cls ≠ "java/lang/invoke/VarHandle" ∧ (parseMethodDescriptor yX11_canReckon.desc).map (fun d => d.parameters.length) = some 3 := by decide +kernel
theorem hd_yX11_livesAsItIs : yX11_livesAsItIs.cls ≠ "java/lang/invoke/MethodHandle" ∧ yX11_livesAsItIs.cls ≠ "java/lang/invoke/VarHandle" ∧ (parseMethodDescriptor yX11_livesAsItIs.desc).map (fun d => d.parameters.length) = some 3 := by decide +kernel
theorem hd_yX2_wetIs : yX2_wetIs.cls ≠ "java/lang/invoke/MethodHandle" ∧ yX2_wetIs.cls ≠ "java/lang/invoke/VarHandle" ∧ (parseMethodDescriptor yX2_wetIs.desc).map (fun d => d.parameters.length) = some 1 := by decide +kernel
theorem dX11_exactly_0 : decode cX11_exactly 0 = .ok (.aload_n 0, 1) := by decide +kernel
theorem dX11_exactly_1 : decode cX11_exactly 1 = .ok (.iload_n 1, 1) := by decide +kernel
theorem dX11_exactly_2 : decode cX11_exactly 2 = .ok (.iload_n 2, 1) := by decide +kernel
theorem dX11_exactly_3 : decode cX11_exactly 3 = .ok (.iload_n 3, 1) := by decide +kernel
theorem dX11_exactly_4 : decode cX11_exactly 4 = .ok (.invokevirtual 198, 3) := by decide +kernel
theorem dX11_exactly_7 : decode cX11_exactly 7 = .ok (.ifCond .eq 14, 3) := by decide +kernel
theorem dX11_exactly_10 : decode cX11_exactly 10 = .ok (.iload 4, 2) := by decide +kernel
theorem dX11_exactly_12 : decode cX11_exactly 12 = .ok (.iconst (-1), 1) := by decide +kernel
theorem dX11_exactly_13 : decode cX11_exactly 13 = .ok (.bipush 24, 2) := by decide +kernel
theorem dX11_exactly_15 : decode cX11_exactly 15 = .ok (.invokestatic 74, 3) := by decide +kernel
theorem dX11_exactly_18 : decode cX11_exactly 18 = .ok (.ifCond .ne 7, 3) := by decide +kernel
theorem dX11_exactly_21 : decode cX11_exactly 21 = .ok (.ldc2_w 201, 3) := by decide +kernel
theorem dX11_exactly_24 : decode cX11_exactly 24 = .ok (.lreturn, 1) := by decide +kernel
theorem dX11_exactly_25 : decode cX11_exactly 25 = .ok (.aload_n 0, 1) := by decide +kernel
theorem dX11_exactly_26 : decode cX11_exactly 26 = .ok (.iload_n 1, 1) := by decide +kernel
theorem dX11_exactly_27 : decode cX11_exactly 27 = .ok (.iload_n 2, 1) := by decide +kernel
theorem dX11_exactly_28 : decode cX11_exactly 28 = .ok (.iload_n 3, 1) := by decide +kernel
theorem dX11_exactly_29 : decode cX11_exactly 29 = .ok (.invokevirtual 203, 3) := by decide +kernel
theorem dX11_exactly_32 : decode cX11_exactly 32 = .ok (.lstore 5, 2) := by decide +kernel
theorem dX11_exactly_34 : decode cX11_exactly 34 = .ok (.iload 4, 2) := by decide +kernel
theorem dX11_exactly_36 : decode cX11_exactly 36 = .ok (.iconst (-1), 1) := by decide +kernel
theorem dX11_exactly_37 : decode cX11_exactly 37 = .ok (.if_icmp .ne 16, 3) := by decide +kernel
theorem dX11_exactly_40 : decode cX11_exactly 40 = .ok (.aload_n 0, 1) := by decide +kernel
theorem dX11_exactly_41 : decode cX11_exactly 41 = .ok (.getfield 41, 3) := by decide +kernel
theorem dX11_exactly_44 : decode cX11_exactly 44 = .ok (.getfield 207, 3) := by decide +kernel
theorem dX11_exactly_47 : decode cX11_exactly 47 = .ok (.lload 5, 2) := by decide +kernel
theorem dX11_exactly_49 : decode cX11_exactly 49 = .ok (.lsub, 1) := by decide +kernel
theorem dX11_exactly_50 : decode cX11_exactly 50 = .ok (.goto 12, 3) := by decide +kernel
theorem dX11_exactly_53 : decode cX11_exactly 53 = .ok (.aload_n 0, 1) := by decide +kernel
theorem dX11_exactly_54 : decode cX11_exactly 54 = .ok (.getfield 41, 3) := by decide +kernel
theorem dX11_exactly_57 : decode cX11_exactly 57 = .ok (.iload 4, 2) := by decide +kernel
theorem dX11_exactly_59 : decode cX11_exactly 59 = .ok (.invokevirtual 211, 3) := by decide +kernel
theorem dX11_exactly_62 : decode cX11_exactly 62 = .ok (.lreturn, 1) := by decide +kernel
set_option maxRecDepth 100000 in
def f_s_exactly (x1 : Int) (x2 : Int) (x3 : Int) (x4 : Int) (V : Nat → Nat → Int) (J : Nat → Nat → Int) (Rr : Nat → Nat → Nat) : (Int × xS) → Prop :=
  calR (f_s_canReckon x1 x2 x3 V J Rr) fun z1 => fct (0 ≤ z1 ∧ z1 ≤ 1) <| (if z1 = 0 then rtn ((-1), (V, J, Rr)) else calR (f_s_isWithin x4 (-1) 24) fun z4 => fct (0 ≤ z4 ∧ z4 ≤ 1) <| (if ¬ z4 = 0 then calSX (fun i k : Nat => (98 ≤ i ∧ i ≤ 104) ∨ (70 ≤ i ∧ i ≤ 70) ∨ (69 ≤ i ∧ i ≤ 71)) V (f_s_livesAsItIs x1 x2 x3 V J Rr) fun z7 V7 J7 R7 => (if ¬ x4 = (-1) then calR (f_s_wetIs x4 V7 J7 R7) fun z9 => rtn (z9, (V7, J7, R7)) else rdb (J7 98 16) fun z10 => rdb (wrJ (z10 - z7)) fun z11 => rtn (z11, (V7, J7, R7))) else rtn ((-1), (V, J, Rr))))
set_option maxHeartbeats 8000000 in
set_option maxRecDepth 100000 in
theorem s_exactly (l : Launch) (D : va_G) (cy : Nat → ClassId) (ad : Nat → Nat) (G : Nat → Nat → Int) (V J : Nat → Nat → Int) (Rr : Nat → Nat → Nat) (hI : XI G V) (hJ : VJ J) (hR : XR Rr) (x1 : Int) (bx1 : -2147483648 ≤ x1 ∧ x1 ≤ 2147483647) (x2 : Int) (bx2 : -2147483648 ≤ x2 ∧ x2 ≤ 2147483647) (x3 : Int) (bx3 : -2147483648 ≤ x3 ∧ x3 ≤ 2147483647) (x4 : Int) (bx4 : -2147483648 ≤ x4 ∧ x4 ≤ 2147483647) : xMl l D (xTY cy) yX11_exactly cX11_exactly 7 (some .long) 7 178 0 0 [.ref (ad 0), vI x1, vI x2, vI x3, vI x4] (XW cy ad V J Rr) (fun u : xS => XW cy ad u.1 u.2.1 u.2.2) (fun a (u : xS) => XS G u ∧ FB (fun i k : Nat => (98 ≤ i ∧ i ≤ 104) ∨ (70 ≤ i ∧ i ≤ 70) ∨ (69 ≤ i ∧ i ≤ 71)) V u.1 ∧ RK u.2.2 Rr ∧ (f_s_exactly x1 x2 x3 x4 V J Rr) (a, u)) := by
  refine xMl.mk (lv0 := [(0, .ref (ad 0)), (1, vI x1), (2, vI x2), (3, vI x3), (4, vI x4)]) (by decide) rfl (Nat.le_of_ble_eq_true rfl) (fun p e s m below meth c A C hr hnm hAe => ?_)
  have C : xC2 p s m _ meth c D A s.heap 7 cX11_exactly RX11 (xTY cy) := C
  have hB : FB (fun i k : Nat => (98 ≤ i ∧ i ≤ 104) ∨ (70 ≤ i ∧ i ≤ 70) ∨ (69 ≤ i ∧ i ≤ 71)) V V := FB.rf _ _
  have hF := Imp.of_eq (f_s_exactly.eq_def x1 x2 x3 x4 V J Rr)
  refine x_aload_n C.1 dX11_exactly_0 0 rfl ?_
  refine x_iload_n C.1 dX11_exactly_1 1 rfl ?_
  refine x_iload_n C.1 dX11_exactly_2 2 rfl ?_
  refine x_iload_n C.1 dX11_exactly_3 3 rfl ?_
  refine x_callVi C (As := [vI x1, vI x2, vI x3]) (rest := []) 0 (xw_at (N := 129) (i := 0) (by decide) rfl) vc_X11 (s_canReckon l D cy ad G V J Rr hI hJ hR x1 ⟨by omega, by omega⟩ x2 ⟨by omega, by omega⟩ x3 ⟨by omega, by omega⟩) (l1 := []) (l2 := []) (List.append_nil _).symm (w2 := fun _ => XW cy ad V J Rr) (fun _ => List.append_nil _) rfl wm_yX11_canReckon wn_X11 wl_X11_198 wi_yX11_canReckon we_yX11_canReckon hd_yX11_canReckon rfl ⟨Nat.le_of_ble_eq_true rfl, Nat.le_of_ble_eq_true rfl⟩ (Nat.le_of_ble_eq_true rfl) ⟨Nat.le_of_ble_eq_true rfl, Nat.le_of_ble_eq_true rfl⟩ dX11_exactly_4 (fun z1 u1 bz1 h1 => ?_)
  obtain ⟨hon1, hFc1⟩ := h1
  replace hF := calR_i hF hFc1
  replace hF := hF.fc hon1.r
  have bq1 := Sp.r hon1
  refine x_if_eq C.1 (tgt := 21) dX11_exactly_7 (by decide) (by omega) (fun hc2 => ?_) (fun hc2 => ?_)
  · replace hF := hF.to (if_pos hc2)
    refine x_ldc2 C.1 (n := -1) wq_X11_201 dX11_exactly_21 ?_
    exact x_lret (S := xS) (post := (fun a (u : xS) => XS G u ∧ FB (fun i k : Nat => (98 ≤ i ∧ i ≤ 104) ∨ (70 ≤ i ∧ i ≤ 70) ∨ (69 ≤ i ∧ i ≤ 71)) V u.1 ∧ RK u.2.2 Rr ∧ (f_s_exactly x1 x2 x3 x4 V J Rr) (a, u))) (w1 := (fun u : xS => XW cy ad u.1 u.2.1 u.2.2)) (a := (-1)) C hr rfl dX11_exactly_24 (by decide) (V, J, Rr) rfl ⟨⟨hI, hJ, hR⟩, hB, (RK.rf _), hF _ rfl⟩
  · replace hF := hF.to (if_neg hc2)
    have hon3 := Sp.on hon1 (by omega)
    refine x_iload C.1 dX11_exactly_10 4 rfl ?_
    refine x_iconst C.1 (n := -1) dX11_exactly_12 ?_
    refine x_bipush C.1 (n := 24) dX11_exactly_13 ?_
    refine x_callSi C (As := [vI x4, vI (-1), vI 24]) (rest := []) (s_isWithin l D cy x4 ⟨by omega, by omega⟩ (-1) ⟨by decide, by decide⟩ 24 ⟨by decide, by decide⟩) (l1 := []) (l2 := _) rfl (w2 := fun _ => _) (fun _ => rfl) rfl wm_yX11_isWithin wn_X11 wl_X11_74 wi_yX11_isWithin hd_yX11_isWithin rfl ⟨Nat.le_of_ble_eq_true rfl, Nat.le_of_ble_eq_true rfl⟩ (Nat.le_of_ble_eq_true rfl) ⟨Nat.le_of_ble_eq_true rfl, Nat.le_of_ble_eq_true rfl⟩ dX11_exactly_15 (fun z4 u4 bz4 h4 => ?_)
    obtain ⟨bq4, hx4_0, hFc4⟩ := h4
    replace hF := calR_i hF hFc4
    replace hF := hF.fc bq4
    refine x_if_ne C.1 (tgt := 25) dX11_exactly_18 (by decide) (by omega) (fun hc5 => ?_) (fun hc5 => ?_)
    · replace hF := hF.to (if_pos hc5)
      have hon6 := Sq.on hx4_0 (by omega)
      refine x_aload_n C.1 dX11_exactly_25 0 rfl ?_
      refine x_iload_n C.1 dX11_exactly_26 1 rfl ?_
      refine x_iload_n C.1 dX11_exactly_27 2 rfl ?_
      refine x_iload_n C.1 dX11_exactly_28 3 rfl ?_
      refine x_callVl C (As := [vI x1, vI x2, vI x3]) (rest := []) 0 (xw_at (N := 129) (i := 0) (by decide) rfl) vc_X11 (s_livesAsItIs l D cy ad G V J Rr hI hJ hR x1 ⟨by omega, by omega⟩ x2 ⟨by omega, by omega⟩ x3 ⟨by omega, by omega⟩) (l1 := []) (l2 := []) (List.append_nil _).symm (w2 := fun u : xS => XW cy ad u.1 u.2.1 u.2.2) (fun _ => List.append_nil _) rfl wm_yX11_livesAsItIs wn_X11 wl_X11_203 wi_yX11_livesAsItIs we_yX11_livesAsItIs hd_yX11_livesAsItIs rfl ⟨Nat.le_of_ble_eq_true rfl, Nat.le_of_ble_eq_true rfl⟩ (Nat.le_of_ble_eq_true rfl) ⟨Nat.le_of_ble_eq_true rfl, Nat.le_of_ble_eq_true rfl⟩ dX11_exactly_29 (fun z7 u7 bz7 h7 => ?_)
      obtain ⟨V7, J7, R7⟩ := u7
      obtain ⟨hS7, hBc7, hEc7, hFc7⟩ := h7
      replace hF := calSX_i hF hFc7 hBc7
      have hB7 := hB.tr hBc7 (fun i k h => (h.elim (fun h => (Or.inl h)) (fun h => (h.elim (fun h => (Or.inr (Or.inl h))) (fun h => (Or.inr (Or.inr (h))))))))
      have hE7 : RK R7 Rr := RK.tr (RK.rf _) hEc7
      obtain ⟨hI7, hJ7, hR7⟩ := hS7
      dsimp only at hI7 hJ7 hR7 ⊢
      refine x_lstore C.1 (lv' := [(5, vJ z7), (0, .ref (ad 0)), (1, vI x1), (2, vI x2), (3, vI x3), (4, vI x4)]) dX11_exactly_32 (by decide) rfl ?_
      refine x_iload C.1 dX11_exactly_34 5 rfl ?_
      refine x_iconst C.1 (n := -1) dX11_exactly_36 ?_
      refine x_icmp_ne C.1 (tgt := 53) dX11_exactly_37 (by decide) (by omega) (by decide) (fun hc8 => ?_) (fun hc8 => ?_)
      · replace hF := hF.to (if_pos hc8)
        refine x_aload_n C.1 dX11_exactly_53 1 rfl ?_
        refine x_getA C (N := 129) (i := 0) (by decide) rfl vc_X11 wx_X11 6 (by decide) wf_X11_41 (a := 98) rfl dX11_exactly_54 ?_
        refine x_iload C.1 dX11_exactly_57 5 rfl ?_
        refine x_callVl C (As := [vI x4]) (rest := []) 98 (xw_at (N := 129) (i := 98) (by decide) rfl) vc_X2 (s_wetIs l D cy ad G V7 J7 R7 hI7 hJ7 hR7 x4 ⟨by omega, by omega⟩) (l1 := []) (l2 := []) (List.append_nil _).symm (w2 := fun _ => XW cy ad V7 J7 R7) (fun _ => List.append_nil _) rfl wm_yX2_wetIs wn_X2 wl_X11_211 wi_yX2_wetIs we_yX2_wetIs hd_yX2_wetIs rfl ⟨Nat.le_of_ble_eq_true rfl, Nat.le_of_ble_eq_true rfl⟩ (Nat.le_of_ble_eq_true rfl) ⟨Nat.le_of_ble_eq_true rfl, Nat.le_of_ble_eq_true rfl⟩ dX11_exactly_59 (fun z9 u9 bz9 h9 => ?_)
        have hFc9 := h9
        replace hF := calR_i hF hFc9
        exact x_lret (S := xS) (post := (fun a (u : xS) => XS G u ∧ FB (fun i k : Nat => (98 ≤ i ∧ i ≤ 104) ∨ (70 ≤ i ∧ i ≤ 70) ∨ (69 ≤ i ∧ i ≤ 71)) V u.1 ∧ RK u.2.2 Rr ∧ (f_s_exactly x1 x2 x3 x4 V J Rr) (a, u))) (w1 := (fun u : xS => XW cy ad u.1 u.2.1 u.2.2)) (a := z9) C hr rfl dX11_exactly_62 (by omega) (V7, J7, R7) rfl ⟨⟨hI7, hJ7, hR7⟩, hB7, hE7, hF _ rfl⟩
      · replace hF := hF.to (if_neg (fun hh => hh hc8))
        refine x_aload_n C.1 dX11_exactly_40 1 rfl ?_
        refine x_getA C (N := 129) (i := 0) (by decide) rfl vc_X11 wx_X11 6 (by decide) wf_X11_41 (a := 98) rfl dX11_exactly_41 ?_
        obtain ⟨z10, ez10, bz10⟩ := hJ7.rd 98 16
        replace hF := hF.to (rdb_e (z := z10) ez10)
        refine x_getJ C (N := 129) (i := 98) (by decide) rfl vc_X2 wx_X2 16 (by decide) wf_X11_207 rfl dX11_exactly_44 (a := z10) ez10 ?_
        refine x_lload C.1 dX11_exactly_47 0 rfl ?_
        refine x_lsub C.1 (v := z10 - z7) (by omega) dX11_exactly_49 ?_
        refine x_wrapJg ?_
        intro z11 bz11 ew11
        replace hF := hF.to (rdb_e (z := z11) ew11.symm)
        refine x_goto C.1 (tgt := 62) dX11_exactly_50 (by decide) ?_
        exact x_lret (S := xS) (post := (fun a (u : xS) => XS G u ∧ FB (fun i k : Nat => (98 ≤ i ∧ i ≤ 104) ∨ (70 ≤ i ∧ i ≤ 70) ∨ (69 ≤ i ∧ i ≤ 71)) V u.1 ∧ RK u.2.2 Rr ∧ (f_s_exactly x1 x2 x3 x4 V J Rr) (a, u))) (w1 := (fun u : xS => XW cy ad u.1 u.2.1 u.2.2)) (a := z11) C hr rfl dX11_exactly_62 (by omega) (V7, J7, R7) rfl ⟨⟨hI7, hJ7, hR7⟩, hB7, hE7, hF _ rfl⟩
    · replace hF := hF.to (if_neg (fun hh => hh hc5))
      refine x_ldc2 C.1 (n := -1) wq_X11_201 dX11_exactly_21 ?_
      exact x_lret (S := xS) (post := (fun a (u : xS) => XS G u ∧ FB (fun i k : Nat => (98 ≤ i ∧ i ≤ 104) ∨ (70 ≤ i ∧ i ≤ 70) ∨ (69 ≤ i ∧ i ≤ 71)) V u.1 ∧ RK u.2.2 Rr ∧ (f_s_exactly x1 x2 x3 x4 V J Rr) (a, u))) (w1 := (fun u : xS => XW cy ad u.1 u.2.1 u.2.2)) (a := (-1)) C hr rfl dX11_exactly_24 (by decide) (V, J, Rr) rfl ⟨⟨hI, hJ, hR⟩, hB, (RK.rf _), hF _ rfl⟩
theorem dX11_chance_0 : decode cX11_chance 0 = .ok (.aload_n 0, 1) := by decide +kernel
theorem dX11_chance_1 : decode cX11_chance 1 = .ok (.iload_n 1, 1) := by decide +kernel
theorem dX11_chance_2 : decode cX11_chance 2 = .ok (.iload_n 2, 1) := by decide +kernel
theorem dX11_chance_3 : decode cX11_chance 3 = .ok (.iload_n 3, 1) := by decide +kernel
theorem dX11_chance_4 : decode cX11_chance 4 = .ok (.invokevirtual 198, 3) := by decide +kernel
theorem dX11_chance_7 : decode cX11_chance 7 = .ok (.ifCond .eq 13, 3) := by decide +kernel
theorem dX11_chance_10 : decode cX11_chance 10 = .ok (.iload 4, 2) := by decide +kernel
theorem dX11_chance_12 : decode cX11_chance 12 = .ok (.iconst 0, 1) := by decide +kernel
theorem dX11_chance_13 : decode cX11_chance 13 = .ok (.iconst 1, 1) := by decide +kernel
theorem dX11_chance_14 : decode cX11_chance 14 = .ok (.invokestatic 74, 3) := by decide +kernel
theorem dX11_chance_17 : decode cX11_chance 17 = .ok (.ifCond .ne 7, 3) := by decide +kernel
theorem dX11_chance_20 : decode cX11_chance 20 = .ok (.ldc2_w 201, 3) := by decide +kernel
theorem dX11_chance_23 : decode cX11_chance 23 = .ok (.lreturn, 1) := by decide +kernel
theorem dX11_chance_24 : decode cX11_chance 24 = .ok (.iconst (-1), 1) := by decide +kernel
theorem dX11_chance_25 : decode cX11_chance 25 = .ok (.istore 5, 2) := by decide +kernel
theorem dX11_chance_27 : decode cX11_chance 27 = .ok (.ldc2_w 201, 3) := by decide +kernel
theorem dX11_chance_30 : decode cX11_chance 30 = .ok (.lstore 6, 2) := by decide +kernel
theorem dX11_chance_32 : decode cX11_chance 32 = .ok (.aload_n 0, 1) := by decide +kernel
theorem dX11_chance_33 : decode cX11_chance 33 = .ok (.getfield 41, 3) := by decide +kernel
theorem dX11_chance_36 : decode cX11_chance 36 = .ok (.aload_n 0, 1) := by decide +kernel
theorem dX11_chance_37 : decode cX11_chance 37 = .ok (.getfield 10, 3) := by decide +kernel
theorem dX11_chance_40 : decode cX11_chance 40 = .ok (.iload_n 1, 1) := by decide +kernel
theorem dX11_chance_41 : decode cX11_chance 41 = .ok (.iload_n 3, 1) := by decide +kernel
theorem dX11_chance_42 : decode cX11_chance 42 = .ok (.invokevirtual 215, 3) := by decide +kernel
theorem dX11_chance_45 : decode cX11_chance 45 = .ok (.iconst 0, 1) := by decide +kernel
theorem dX11_chance_46 : decode cX11_chance 46 = .ok (.istore 8, 2) := by decide +kernel
theorem dX11_chance_48 : decode cX11_chance 48 = .ok (.iload 8, 2) := by decide +kernel
theorem dX11_chance_50 : decode cX11_chance 50 = .ok (.bipush 10, 2) := by decide +kernel
theorem dX11_chance_52 : decode cX11_chance 52 = .ok (.if_icmp .gt 55, 3) := by decide +kernel
theorem dX11_chance_55 : decode cX11_chance 55 = .ok (.aload_n 0, 1) := by decide +kernel
theorem dX11_chance_56 : decode cX11_chance 56 = .ok (.getfield 41, 3) := by decide +kernel
theorem dX11_chance_59 : decode cX11_chance 59 = .ok (.getfield 219, 3) := by decide +kernel
theorem dX11_chance_62 : decode cX11_chance 62 = .ok (.iload 8, 2) := by decide +kernel
theorem dX11_chance_64 : decode cX11_chance 64 = .ok (.invokestatic 222, 3) := by decide +kernel
theorem dX11_chance_67 : decode cX11_chance 67 = .ok (.aload_n 0, 1) := by decide +kernel
theorem dX11_chance_68 : decode cX11_chance 68 = .ok (.getfield 41, 3) := by decide +kernel
theorem dX11_chance_71 : decode cX11_chance 71 = .ok (.aload_n 0, 1) := by decide +kernel
theorem dX11_chance_72 : decode cX11_chance 72 = .ok (.getfield 10, 3) := by decide +kernel
theorem dX11_chance_75 : decode cX11_chance 75 = .ok (.aload_n 0, 1) := by decide +kernel
theorem dX11_chance_76 : decode cX11_chance 76 = .ok (.getfield 34, 3) := by decide +kernel
theorem dX11_chance_79 : decode cX11_chance 79 = .ok (.iload_n 2, 1) := by decide +kernel
theorem dX11_chance_80 : decode cX11_chance 80 = .ok (.invokevirtual 228, 3) := by decide +kernel
theorem dX11_chance_83 : decode cX11_chance 83 = .ok (.lstore 9, 2) := by decide +kernel
theorem dX11_chance_85 : decode cX11_chance 85 = .ok (.lload 9, 2) := by decide +kernel
theorem dX11_chance_87 : decode cX11_chance 87 = .ok (.lload 6, 2) := by decide +kernel
theorem dX11_chance_89 : decode cX11_chance 89 = .ok (.lcmp, 1) := by decide +kernel
theorem dX11_chance_90 : decode cX11_chance 90 = .ok (.ifCond .le 11, 3) := by decide +kernel
theorem dX11_chance_93 : decode cX11_chance 93 = .ok (.lload 9, 2) := by decide +kernel
theorem dX11_chance_95 : decode cX11_chance 95 = .ok (.lstore 6, 2) := by decide +kernel
theorem dX11_chance_97 : decode cX11_chance 97 = .ok (.iload 8, 2) := by decide +kernel
theorem dX11_chance_99 : decode cX11_chance 99 = .ok (.istore 5, 2) := by decide +kernel
theorem dX11_chance_101 : decode cX11_chance 101 = .ok (.iinc 8 1, 3) := by decide +kernel
theorem dX11_chance_104 : decode cX11_chance 104 = .ok (.goto (-56), 3) := by decide +kernel
theorem dX11_chance_107 : decode cX11_chance 107 = .ok (.iload 4, 2) := by decide +kernel
theorem dX11_chance_109 : decode cX11_chance 109 = .ok (.ifCond .ne 9, 3) := by decide +kernel
theorem dX11_chance_112 : decode cX11_chance 112 = .ok (.iload 5, 2) := by decide +kernel
theorem dX11_chance_114 : decode cX11_chance 114 = .ok (.i2l, 1) := by decide +kernel
theorem dX11_chance_115 : decode cX11_chance 115 = .ok (.goto 5, 3) := by decide +kernel
theorem dX11_chance_118 : decode cX11_chance 118 = .ok (.lload 6, 2) := by decide +kernel
theorem dX11_chance_120 : decode cX11_chance 120 = .ok (.lreturn, 1) := by decide +kernel
set_option maxRecDepth 100000 in
def f_s_chance (x1 : Int) (x2 : Int) (x3 : Int) (x4 : Int) (V : Nat → Nat → Int) (J : Nat → Nat → Int) (Rr : Nat → Nat → Nat) : (Int × xS) → Prop :=
  calR (f_s_canReckon x1 x2 x3 V J Rr) fun z1 => fct (0 ≤ z1 ∧ z1 ≤ 1) <| (if z1 = 0 then rtn ((-1), (V, J, Rr)) else calR (f_s_isWithin x4 0 1) fun z4 => fct (0 ≤ z4 ∧ z4 ≤ 1) <| (if ¬ z4 = 0 then calUX (fun i k : Nat => (98 ≤ i ∧ i ≤ 104)) V (f_s_take 1 x1 x3 V J Rr) fun V7 => lop6 (13) (fun rc86 (z83 : Int) (z84 : Int) (z85 : Int) (V86 : Nat → Nat → Int) (J86 : Nat → Nat → Int) (R86 : Nat → Nat → Nat) => (if 10 < z83 then (if ¬ x4 = 0 then rtn (z84, (V86, J86, R86)) else rtn (z85, (V86, J86, R86))) else calUX (fun i k : Nat => (104 ≤ i ∧ i ≤ 104)) V86 (f_s_fillT z83 V86 J86 R86) fun V112 => calSX (fun i k : Nat => (98 ≤ i ∧ i ≤ 104) ∨ (70 ≤ i ∧ i ≤ 70) ∨ (69 ≤ i ∧ i ≤ 71)) V112 (f_s_lives 1 x2 V112 J86 R86) fun z113 V113 J113 R113 => jnk (fun (z115 : Int) (z116 : Int) => rc86 (z83 + 1) z115 z116 V113 J113 R113) fun jf117 => (if (lcI z113 z84) ≤ 0 then jf117 z84 z85 else jf117 z113 z83))) 0 ((-1)) ((-1)) V7 J Rr else rtn ((-1), (V, J, Rr))))
set_option maxHeartbeats 8000000 in
set_option maxRecDepth 100000 in
theorem s_chance (l : Launch) (D : va_G) (cy : Nat → ClassId) (ad : Nat → Nat) (G : Nat → Nat → Int) (V J : Nat → Nat → Int) (Rr : Nat → Nat → Nat) (hI : XI G V) (hJ : VJ J) (hR : XR Rr) (x1 : Int) (bx1 : -2147483648 ≤ x1 ∧ x1 ≤ 2147483647) (x2 : Int) (bx2 : -2147483648 ≤ x2 ∧ x2 ≤ 2147483647) (x3 : Int) (bx3 : -2147483648 ≤ x3 ∧ x3 ≤ 2147483647) (x4 : Int) (bx4 : -2147483648 ≤ x4 ∧ x4 ≤ 2147483647) : xMl l D (xTY cy) yX11_chance cX11_chance 11 (some .long) 6 155 0 0 [.ref (ad 0), vI x1, vI x2, vI x3, vI x4] (XW cy ad V J Rr) (fun u : xS => XW cy ad u.1 u.2.1 u.2.2) (fun a (u : xS) => XS G u ∧ FB (fun i k : Nat => (98 ≤ i ∧ i ≤ 104) ∨ (104 ≤ i ∧ i ≤ 104) ∨ (70 ≤ i ∧ i ≤ 70) ∨ (69 ≤ i ∧ i ≤ 71)) V u.1 ∧ RK u.2.2 Rr ∧ (f_s_chance x1 x2 x3 x4 V J Rr) (a, u)) := by
  refine xMl.mk (lv0 := [(0, .ref (ad 0)), (1, vI x1), (2, vI x2), (3, vI x3), (4, vI x4)]) (by decide) rfl (Nat.le_of_ble_eq_true rfl) (fun p e s m below meth c A C hr hnm hAe => ?_)
  have C : xC2 p s m _ meth c D A s.heap 11 cX11_chance RX11 (xTY cy) := C
  have hB : FB (fun i k : Nat => (98 ≤ i ∧ i ≤ 104) ∨ (104 ≤ i ∧ i ≤ 104) ∨ (70 ≤ i ∧ i ≤ 70) ∨ (69 ≤ i ∧ i ≤ 71)) V V := FB.rf _ _
  have hF := Imp.of_eq (f_s_chance.eq_def x1 x2 x3 x4 V J Rr)
  refine x_aload_n C.1 dX11_chance_0 0 rfl ?_
  refine x_iload_n C.1 dX11_chance_1 1 rfl ?_
  refine x_iload_n C.1 dX11_chance_2 2 rfl ?_
  refine x_iload_n C.1 dX11_chance_3 3 rfl ?_
  refine x_callVi C (As := [vI x1, vI x2, vI x3]) (rest := []) 0 (xw_at (N := 129) (i := 0) (by decide) rfl) vc_X11 (s_canReckon l D cy ad G V J Rr hI hJ hR x1 ⟨by omega, by omega⟩ x2 ⟨by omega, by omega⟩ x3 ⟨by omega, by omega⟩) (l1 := []) (l2 := []) (List.append_nil _).symm (w2 := fun _ => XW cy ad V J Rr) (fun _ => List.append_nil _) rfl wm_yX11_canReckon wn_X11 wl_X11_198 wi_yX11_canReckon we_yX11_canReckon hd_yX11_canReckon rfl ⟨Nat.le_of_ble_eq_true rfl, Nat.le_of_ble_eq_true rfl⟩ (Nat.le_of_ble_eq_true rfl) ⟨Nat.le_of_ble_eq_true rfl, Nat.le_of_ble_eq_true rfl⟩ dX11_chance_4 (fun z1 u1 bz1 h1 => ?_)
  obtain ⟨hon1, hFc1⟩ := h1
  replace hF := calR_i hF hFc1
  replace hF := hF.fc hon1.r
  have bq1 := Sp.r hon1
  refine x_if_eq C.1 (tgt := 20) dX11_chance_7 (by decide) (by omega) (fun hc2 => ?_) (fun hc2 => ?_)
  · replace hF := hF.to (if_pos hc2)
    refine x_ldc2 C.1 (n := -1) wq_X11_201 dX11_chance_20 ?_
    exact x_lret (S := xS) (post := (fun a (u : xS) => XS G u ∧ FB (fun i k : Nat => (98 ≤ i ∧ i ≤ 104) ∨ (104 ≤ i ∧ i ≤ 104) ∨ (70 ≤ i ∧ i ≤ 70) ∨ (69 ≤ i ∧ i ≤ 71)) V u.1 ∧ RK u.2.2 Rr ∧ (f_s_chance x1 x2 x3 x4 V J Rr) (a, u))) (w1 := (fun u : xS => XW cy ad u.1 u.2.1 u.2.2)) (a := (-1)) C hr rfl dX11_chance_23 (by decide) (V, J, Rr) rfl ⟨⟨hI, hJ, hR⟩, hB, (RK.rf _), hF _ rfl⟩
  · replace hF := hF.to (if_neg hc2)
    have hon3 := Sp.on hon1 (by omega)
    refine x_iload C.1 dX11_chance_10 4 rfl ?_
    refine x_iconst C.1 (n := 0) dX11_chance_12 ?_
    refine x_iconst C.1 (n := 1) dX11_chance_13 ?_
    refine x_callSi C (As := [vI x4, vI 0, vI 1]) (rest := []) (s_isWithin l D cy x4 ⟨by omega, by omega⟩ 0 ⟨by decide, by decide⟩ 1 ⟨by decide, by decide⟩) (l1 := []) (l2 := _) rfl (w2 := fun _ => _) (fun _ => rfl) rfl wm_yX11_isWithin wn_X11 wl_X11_74 wi_yX11_isWithin hd_yX11_isWithin rfl ⟨Nat.le_of_ble_eq_true rfl, Nat.le_of_ble_eq_true rfl⟩ (Nat.le_of_ble_eq_true rfl) ⟨Nat.le_of_ble_eq_true rfl, Nat.le_of_ble_eq_true rfl⟩ dX11_chance_14 (fun z4 u4 bz4 h4 => ?_)
    obtain ⟨bq4, hx4_0, hFc4⟩ := h4
    replace hF := calR_i hF hFc4
    replace hF := hF.fc bq4
    refine x_if_ne C.1 (tgt := 24) dX11_chance_17 (by decide) (by omega) (fun hc5 => ?_) (fun hc5 => ?_)
    · replace hF := hF.to (if_pos hc5)
      have hon6 := Sq.on hx4_0 (by omega)
      refine x_iconst C.1 (n := -1) dX11_chance_24 ?_
      refine x_istore C.1 (lv' := [(5, vI (-1)), (0, .ref (ad 0)), (1, vI x1), (2, vI x2), (3, vI x3), (4, vI x4)]) dX11_chance_25 (by decide) rfl ?_
      refine x_ldc2 C.1 (n := -1) wq_X11_201 dX11_chance_27 ?_
      refine x_lstore C.1 (lv' := [(6, vJ (-1)), (5, vI (-1)), (0, .ref (ad 0)), (1, vI x1), (2, vI x2), (3, vI x3), (4, vI x4)]) dX11_chance_30 (by decide) rfl ?_
      refine x_aload_n C.1 dX11_chance_32 2 rfl ?_
      refine x_getA C (N := 129) (i := 0) (by decide) rfl vc_X11 wx_X11 6 (by decide) wf_X11_41 (a := 98) rfl dX11_chance_33 ?_
      refine x_aload_n C.1 dX11_chance_36 2 rfl ?_
      refine x_getA C (N := 129) (i := 0) (by decide) rfl vc_X11 wx_X11 0 (by decide) wf_X11_10 (a := 1) rfl dX11_chance_37 ?_
      refine x_iload_n C.1 dX11_chance_40 3 rfl ?_
      refine x_iload_n C.1 dX11_chance_41 5 rfl ?_
      refine x_callVv C (As := [.ref (ad 1), vI x1, vI x3]) (rest := []) 98 (xw_at (N := 129) (i := 98) (by decide) rfl) vc_X2 (s_take l D cy ad G V J Rr hI hJ hR 1 (Or.inl rfl) x1 ⟨by omega, by omega⟩ x3 ⟨by omega, by omega⟩) (l1 := []) (l2 := []) (List.append_nil _).symm (w2 := fun u : Nat → Nat → Int => XW cy ad u J Rr) (fun _ => List.append_nil _) rfl wm_yX2_take wn_X2 wl_X11_215 wi_yX2_take we_yX2_take hd_yX2_take rfl ⟨Nat.le_of_ble_eq_true rfl, Nat.le_of_ble_eq_true rfl⟩ (Nat.le_of_ble_eq_true rfl) ⟨Nat.le_of_ble_eq_true rfl, Nat.le_of_ble_eq_true rfl⟩ dX11_chance_42 (fun V7 h7 => ?_)
      obtain ⟨hI7, hBc7, hFc7⟩ := h7
      replace hF := calUX_i hF hFc7 hBc7
      have hB7 := hB.tr hBc7 (fun i k h => (Or.inl h))
      refine x_iconst C.1 (n := 0) dX11_chance_45 ?_
      refine x_istore C.1 (lv' := [(8, vI 0), (6, vJ (-1)), (5, vI (-1)), (0, .ref (ad 0)), (1, vI x1), (2, vI x2), (3, vI x3), (4, vI x4)]) dX11_chance_46 (by decide) rfl ?_
      obtain ⟨bd86, hbd86, hF⟩ := lop6_ex hF
      refine x_loop (I := fun x : Int × Int × Int × (Nat → Nat → Int) × (Nat → Nat → Int) × (Nat → Nat → Nat) => match x with | (z83, z84, z85, V86, J86, R86) => (0 ≤ z83 ∧ z83 ≤ 11) ∧ (-1 ≤ z84 ∧ z84 ≤ 9223372036854775807) ∧ (-1 ≤ z85 ∧ z85 ≤ 2147483647) ∧ XI G V86 ∧ FB (fun i k : Nat => (98 ≤ i ∧ i ≤ 104) ∨ (104 ≤ i ∧ i ≤ 104) ∨ (70 ≤ i ∧ i ≤ 70) ∨ (69 ≤ i ∧ i ≤ 71)) V V86 ∧ VJ J86 ∧ XR R86 ∧ RK R86 Rr ∧ (∃ nf : Nat, (12 - z83).toNat < nf ∧ Imp (lop6 nf bd86 z83 z84 z85 V86 J86 R86) (f_s_chance x1 x2 x3 x4 V J Rr))) (μ := fun x : Int × Int × Int × (Nat → Nat → Int) × (Nat → Nat → Int) × (Nat → Nat → Nat) => match x with | (z83, z84, z85, V86, J86, R86) => (12 - z83).toNat) (wsf := fun x : Int × Int × Int × (Nat → Nat → Int) × (Nat → Nat → Int) × (Nat → Nat → Nat) => match x with | (z83, z84, z85, V86, J86, R86) => XW cy ad V86 J86 R86) (lvf := fun x : Int × Int × Int × (Nat → Nat → Int) × (Nat → Nat → Int) × (Nat → Nat → Nat) => match x with | (z83, z84, z85, V86, J86, R86) => [(8, vI z83), (6, vJ z84), (5, vI z85), (0, .ref (ad 0)), (1, vI x1), (2, vI x2), (3, vI x3), (4, vI x4)]) (fun x hI86x ih86 => ?_) (0, (-1), (-1), V7, J, Rr) ⟨⟨by decide, by decide⟩, ⟨by decide, by decide⟩, ⟨by decide, by decide⟩, hI7, hB7, hJ, hR, (RK.rf _), ⟨_, (by omega), hF⟩⟩ rfl rfl
      obtain ⟨z83, z84, z85, V86, J86, R86⟩ := x
      obtain ⟨bz83, bz84, bz85, hI86, hB86, hJ86, hR86, hE86, nf86, hn86, hF⟩ := hI86x
      try dsimp only
      obtain ⟨nf86, rfl⟩ : ∃ mm, nf86 = mm + 1 := ⟨nf86 - 1, (Nat.succ_pred_eq_of_pos (Nat.lt_of_le_of_lt (Nat.zero_le _) hn86)).symm⟩
      replace hF := hF.to (lop6_s hbd86)
      refine x_iload C.1 dX11_chance_48 0 rfl ?_
      refine x_bipush C.1 (n := 10) dX11_chance_50 ?_
      refine x_icmp_gt C.1 (tgt := 107) dX11_chance_52 (by decide) (by omega) (by decide) (fun hc110 => ?_) (fun hc110 => ?_)
      · replace hF := hF.to (if_pos hc110)
        refine x_iload C.1 dX11_chance_107 7 rfl ?_
        refine x_if_ne C.1 (tgt := 118) dX11_chance_109 (by decide) (by omega) (fun hc111 => ?_) (fun hc111 => ?_)
        · replace hF := hF.to (if_pos hc111)
          refine x_lload C.1 dX11_chance_118 1 rfl ?_
          exact x_lret (S := xS) (post := (fun a (u : xS) => XS G u ∧ FB (fun i k : Nat => (98 ≤ i ∧ i ≤ 104) ∨ (104 ≤ i ∧ i ≤ 104) ∨ (70 ≤ i ∧ i ≤ 70) ∨ (69 ≤ i ∧ i ≤ 71)) V u.1 ∧ RK u.2.2 Rr ∧ (f_s_chance x1 x2 x3 x4 V J Rr) (a, u))) (w1 := (fun u : xS => XW cy ad u.1 u.2.1 u.2.2)) (a := z84) C hr rfl dX11_chance_120 (by omega) (V86, J86, R86) rfl ⟨⟨hI86, hJ86, hR86⟩, hB86, hE86, hF _ rfl⟩
        · replace hF := hF.to (if_neg (fun hh => hh hc111))
          refine x_iload C.1 dX11_chance_112 2 rfl ?_
          refine x_i2l C.1 dX11_chance_114 (by omega) ?_
          refine x_goto C.1 (tgt := 120) dX11_chance_115 (by decide) ?_
          exact x_lret (S := xS) (post := (fun a (u : xS) => XS G u ∧ FB (fun i k : Nat => (98 ≤ i ∧ i ≤ 104) ∨ (104 ≤ i ∧ i ≤ 104) ∨ (70 ≤ i ∧ i ≤ 70) ∨ (69 ≤ i ∧ i ≤ 71)) V u.1 ∧ RK u.2.2 Rr ∧ (f_s_chance x1 x2 x3 x4 V J Rr) (a, u))) (w1 := (fun u : xS => XW cy ad u.1 u.2.1 u.2.2)) (a := z85) C hr rfl dX11_chance_120 (by omega) (V86, J86, R86) rfl ⟨⟨hI86, hJ86, hR86⟩, hB86, hE86, hF _ rfl⟩
      · replace hF := hF.to (if_neg hc110)
        refine x_aload_n C.1 dX11_chance_55 3 rfl ?_
        refine x_getA C (N := 129) (i := 0) (by decide) rfl vc_X11 wx_X11 6 (by decide) wf_X11_41 (a := 98) rfl dX11_chance_56 ?_
        refine x_getA C (N := 129) (i := 98) (by decide) rfl vc_X2 wx_X2 7 (by decide) wf_X11_219 (a := 104) rfl dX11_chance_59 ?_
        refine x_iload C.1 dX11_chance_62 0 rfl ?_
        refine x_callSv C (As := [.ref (ad 104), vI z83]) (rest := []) (s_fillT l D cy ad G V86 J86 R86 hI86 hJ86 hR86 z83 ⟨by omega, by omega⟩) (l1 := []) (l2 := []) (List.append_nil _).symm (w2 := fun u : Nat → Nat → Int => XW cy ad u J86 R86) (fun _ => List.append_nil _) rfl wm_yJ7_fill_53178 wn_J7 wl_X11_222 wi_yJ7_fill_53178 hd_yJ7_fill_53178 rfl ⟨Nat.le_of_ble_eq_true rfl, Nat.le_of_ble_eq_true rfl⟩ (Nat.le_of_ble_eq_true rfl) ⟨Nat.le_of_ble_eq_true rfl, Nat.le_of_ble_eq_true rfl⟩ dX11_chance_64 (fun V112 h112 => ?_)
        obtain ⟨hI112, hBc112, hFc112⟩ := h112
        replace hF := calUX_i hF hFc112 hBc112
        have hB112 := hB86.tr hBc112 (fun i k h => (Or.inr (Or.inl h)))
        refine x_aload_n C.1 dX11_chance_67 3 rfl ?_
        refine x_getA C (N := 129) (i := 0) (by decide) rfl vc_X11 wx_X11 6 (by decide) wf_X11_41 (a := 98) rfl dX11_chance_68 ?_
        refine x_aload_n C.1 dX11_chance_71 3 rfl ?_
        refine x_getA C (N := 129) (i := 0) (by decide) rfl vc_X11 wx_X11 0 (by decide) wf_X11_10 (a := 1) rfl dX11_chance_72 ?_
        refine x_aload_n C.1 dX11_chance_75 3 rfl ?_
        refine x_getA C (N := 129) (i := 0) (by decide) rfl vc_X11 wx_X11 5 (by decide) wf_X11_34 (a := 60) rfl dX11_chance_76 ?_
        refine x_iload_n C.1 dX11_chance_79 5 rfl ?_
        refine x_callVl C (As := [.ref (ad 1), .ref (ad 60), vI x2]) (rest := []) 98 (xw_at (N := 129) (i := 98) (by decide) rfl) vc_X2 (s_lives l D cy ad G V112 J86 R86 hI112 hJ86 hR86 1 (Or.inl rfl) x2 ⟨by omega, by omega⟩) (l1 := []) (l2 := []) (List.append_nil _).symm (w2 := fun u : xS => XW cy ad u.1 u.2.1 u.2.2) (fun _ => List.append_nil _) rfl wm_yX2_lives wn_X2 wl_X11_228 wi_yX2_lives we_yX2_lives hd_yX2_lives rfl ⟨Nat.le_of_ble_eq_true rfl, Nat.le_of_ble_eq_true rfl⟩ (Nat.le_of_ble_eq_true rfl) ⟨Nat.le_of_ble_eq_true rfl, Nat.le_of_ble_eq_true rfl⟩ dX11_chance_80 (fun z113 u113 bz113 h113 => ?_)
        obtain ⟨V113, J113, R113⟩ := u113
        obtain ⟨hS113, hBc113, hEc113, hFc113⟩ := h113
        replace hF := calSX_i hF hFc113 hBc113
        have hB113 := hB112.tr hBc113 (fun i k h => (h.elim (fun h => (Or.inl h)) (fun h => (h.elim (fun h => (Or.inr (Or.inr (Or.inl h)))) (fun h => (Or.inr (Or.inr (Or.inr (h)))))))))
        have hE113 : RK R113 Rr := RK.tr hE86 hEc113
        obtain ⟨hI113, hJ113, hR113⟩ := hS113
        dsimp only at hI113 hJ113 hR113 ⊢
        refine x_lstore C.1 (lv' := [(9, vJ z113), (8, vI z83), (6, vJ z84), (5, vI z85), (0, .ref (ad 0)), (1, vI x1), (2, vI x2), (3, vI x3), (4, vI x4)]) dX11_chance_83 (by decide) rfl ?_
        refine x_lload C.1 dX11_chance_85 0 rfl ?_
        refine x_lload C.1 dX11_chance_87 2 rfl ?_
        refine x_lcmp C.1 rfl dX11_chance_89 (by omega) (by omega) ?_
        have bz114 := lcI_r2 z113 z84
        obtain ⟨jf117, hjf117, hF⟩ := jn_ex hF
        refine x_join (I := fun x : Int × Int => match x with | (z115, z116) => (-1 ≤ z115 ∧ z115 ≤ 9223372036854775807) ∧ (-1 ≤ z116 ∧ z116 ≤ 2147483647) ∧ Imp (jf117 z115 z116) (f_s_chance x1 x2 x3 x4 V J Rr)) (wsf := fun x : Int × Int => match x with | (z115, z116) => XW cy ad V113 J113 R113) (lvf := fun x : Int × Int => match x with | (z115, z116) => [(9, vJ z113), (8, vI z83), (6, vJ z115), (5, vI z116), (0, .ref (ad 0)), (1, vI x1), (2, vI x2), (3, vI x3), (4, vI x4)]) (stf := fun x : Int × Int => match x with | (z115, z116) => []) 101 (fun x hI117x => ?_) (fun jn117 => ?_)
        · obtain ⟨z115, z116⟩ := x
          obtain ⟨bz115, bz116, hF⟩ := hI117x
          try dsimp only
          replace hF := hF.to (jn_s2 hjf117)
          refine x_iinc C.1 (v := z83 + 1) (lv' := [(8, vI (z83 + 1)), (9, vJ z113), (6, vJ z115), (5, vI z116), (0, .ref (ad 0)), (1, vI x1), (2, vI x2), (3, vI x3), (4, vI x4)]) (by omega) dX11_chance_101 1 rfl (by decide) rfl ?_
          refine x_goto C.1 (tgt := 48) dX11_chance_104 (by decide) ?_
          refine x_lv [(8, vI (z83 + 1)), (6, vJ z115), (5, vI z116), (0, .ref (ad 0)), (1, vI x1), (2, vI x2), (3, vI x3), (4, vI x4)] [0, 2, 3, 4, 5, 6, 7, 8] rfl ?_
          have hmu86 : (12 - (z83 + 1)).toNat < (12 - z83).toNat := (by omega)
          exact ih86 (z83 + 1, z115, z116, V113, J113, R113) ⟨⟨by omega, by omega⟩, ⟨by omega, by omega⟩, ⟨by omega, by omega⟩, hI113, hB113, hJ113, hR113, hE113, ⟨nf86, Nat.lt_of_lt_of_le hmu86 (Nat.le_of_lt_succ hn86), hF⟩⟩ hmu86
        · refine x_if_le C.1 (tgt := 101) dX11_chance_90 (by decide) (by omega) (fun hc118 => ?_) (fun hc118 => ?_)
          · replace hF := hF.to (if_pos hc118)
            rw [lcI_le] at hc118
            exact jn117 (z84, z85) ⟨⟨by omega, by omega⟩, ⟨by omega, by omega⟩, hF⟩
          · replace hF := hF.to (if_neg hc118)
            rw [lcI_le] at hc118
            refine x_lload C.1 dX11_chance_93 0 rfl ?_
            refine x_lstore C.1 (lv' := [(6, vJ z113), (9, vJ z113), (8, vI z83), (5, vI z85), (0, .ref (ad 0)), (1, vI x1), (2, vI x2), (3, vI x3), (4, vI x4)]) dX11_chance_95 (by decide) rfl ?_
            refine x_iload C.1 dX11_chance_97 2 rfl ?_
            refine x_istore C.1 (lv' := [(5, vI z83), (6, vJ z113), (9, vJ z113), (8, vI z83), (0, .ref (ad 0)), (1, vI x1), (2, vI x2), (3, vI x3), (4, vI x4)]) dX11_chance_99 (by decide) rfl ?_
            refine x_lv [(9, vJ z113), (8, vI z83), (6, vJ z113), (5, vI z83), (0, .ref (ad 0)), (1, vI x1), (2, vI x2), (3, vI x3), (4, vI x4)] [2, 3, 1, 0, 4, 5, 6, 7, 8] rfl ?_
            exact jn117 (z113, z83) ⟨⟨by omega, by omega⟩, ⟨by omega, by omega⟩, hF⟩
    · replace hF := hF.to (if_neg (fun hh => hh hc5))
      refine x_ldc2 C.1 (n := -1) wq_X11_201 dX11_chance_20 ?_
      exact x_lret (S := xS) (post := (fun a (u : xS) => XS G u ∧ FB (fun i k : Nat => (98 ≤ i ∧ i ≤ 104) ∨ (104 ≤ i ∧ i ≤ 104) ∨ (70 ≤ i ∧ i ≤ 70) ∨ (69 ≤ i ∧ i ≤ 71)) V u.1 ∧ RK u.2.2 Rr ∧ (f_s_chance x1 x2 x3 x4 V J Rr) (a, u))) (w1 := (fun u : xS => XW cy ad u.1 u.2.1 u.2.2)) (a := (-1)) C hr rfl dX11_chance_23 (by decide) (V, J, Rr) rfl ⟨⟨hI, hJ, hR⟩, hB, (RK.rf _), hF _ rfl⟩
theorem hd_yX2_ask : yX2_ask.cls ≠ "java/lang/invoke/MethodHandle" ∧ yX2_ask.cls ≠ "java/lang/invoke/VarHandle" ∧ (parseMethodDescriptor yX2_ask.desc).map (fun d => d.parameters.length) = some 1 := by decide +kernel
theorem dX11_toAsk_0 : decode cX11_toAsk 0 = .ok (.aload_n 0, 1) := by decide +kernel
theorem dX11_toAsk_1 : decode cX11_toAsk 1 = .ok (.iload_n 1, 1) := by decide +kernel
theorem dX11_toAsk_2 : decode cX11_toAsk 2 = .ok (.iload_n 2, 1) := by decide +kernel
theorem dX11_toAsk_3 : decode cX11_toAsk 3 = .ok (.iload_n 3, 1) := by decide +kernel
theorem dX11_toAsk_4 : decode cX11_toAsk 4 = .ok (.invokevirtual 198, 3) := by decide +kernel
theorem dX11_toAsk_7 : decode cX11_toAsk 7 = .ok (.ifCond .eq 13, 3) := by decide +kernel
theorem dX11_toAsk_10 : decode cX11_toAsk 10 = .ok (.iload 4, 2) := by decide +kernel
theorem dX11_toAsk_12 : decode cX11_toAsk 12 = .ok (.iconst 0, 1) := by decide +kernel
theorem dX11_toAsk_13 : decode cX11_toAsk 13 = .ok (.iconst 1, 1) := by decide +kernel
theorem dX11_toAsk_14 : decode cX11_toAsk 14 = .ok (.invokestatic 74, 3) := by decide +kernel
theorem dX11_toAsk_17 : decode cX11_toAsk 17 = .ok (.ifCond .ne 7, 3) := by decide +kernel
theorem dX11_toAsk_20 : decode cX11_toAsk 20 = .ok (.ldc2_w 201, 3) := by decide +kernel
theorem dX11_toAsk_23 : decode cX11_toAsk 23 = .ok (.lreturn, 1) := by decide +kernel
theorem dX11_toAsk_24 : decode cX11_toAsk 24 = .ok (.bipush (-2), 2) := by decide +kernel
theorem dX11_toAsk_26 : decode cX11_toAsk 26 = .ok (.istore 5, 2) := by decide +kernel
theorem dX11_toAsk_28 : decode cX11_toAsk 28 = .ok (.aload_n 0, 1) := by decide +kernel
theorem dX11_toAsk_29 : decode cX11_toAsk 29 = .ok (.iload_n 1, 1) := by decide +kernel
theorem dX11_toAsk_30 : decode cX11_toAsk 30 = .ok (.iload_n 2, 1) := by decide +kernel
theorem dX11_toAsk_31 : decode cX11_toAsk 31 = .ok (.iload_n 3, 1) := by decide +kernel
theorem dX11_toAsk_32 : decode cX11_toAsk 32 = .ok (.invokevirtual 203, 3) := by decide +kernel
theorem dX11_toAsk_35 : decode cX11_toAsk 35 = .ok (.lstore 6, 2) := by decide +kernel
theorem dX11_toAsk_37 : decode cX11_toAsk 37 = .ok (.iconst 0, 1) := by decide +kernel
theorem dX11_toAsk_38 : decode cX11_toAsk 38 = .ok (.istore 8, 2) := by decide +kernel
theorem dX11_toAsk_40 : decode cX11_toAsk 40 = .ok (.iload 8, 2) := by decide +kernel
theorem dX11_toAsk_42 : decode cX11_toAsk 42 = .ok (.iload_n 3, 1) := by decide +kernel
theorem dX11_toAsk_43 : decode cX11_toAsk 43 = .ok (.if_icmp .ge 73, 3) := by decide +kernel
theorem dX11_toAsk_46 : decode cX11_toAsk 46 = .ok (.aload_n 0, 1) := by decide +kernel
theorem dX11_toAsk_47 : decode cX11_toAsk 47 = .ok (.getfield 41, 3) := by decide +kernel
theorem dX11_toAsk_50 : decode cX11_toAsk 50 = .ok (.aload_n 0, 1) := by decide +kernel
theorem dX11_toAsk_51 : decode cX11_toAsk 51 = .ok (.getfield 10, 3) := by decide +kernel
theorem dX11_toAsk_54 : decode cX11_toAsk 54 = .ok (.iload_n 1, 1) := by decide +kernel
theorem dX11_toAsk_55 : decode cX11_toAsk 55 = .ok (.iload_n 3, 1) := by decide +kernel
theorem dX11_toAsk_56 : decode cX11_toAsk 56 = .ok (.invokevirtual 215, 3) := by decide +kernel
theorem dX11_toAsk_59 : decode cX11_toAsk 59 = .ok (.aload_n 0, 1) := by decide +kernel
theorem dX11_toAsk_60 : decode cX11_toAsk 60 = .ok (.getfield 41, 3) := by decide +kernel
theorem dX11_toAsk_63 : decode cX11_toAsk 63 = .ok (.iload 8, 2) := by decide +kernel
theorem dX11_toAsk_65 : decode cX11_toAsk 65 = .ok (.invokevirtual 232, 3) := by decide +kernel
theorem dX11_toAsk_68 : decode cX11_toAsk 68 = .ok (.aload_n 0, 1) := by decide +kernel
theorem dX11_toAsk_69 : decode cX11_toAsk 69 = .ok (.getfield 41, 3) := by decide +kernel
theorem dX11_toAsk_72 : decode cX11_toAsk 72 = .ok (.aload_n 0, 1) := by decide +kernel
theorem dX11_toAsk_73 : decode cX11_toAsk 73 = .ok (.getfield 10, 3) := by decide +kernel
theorem dX11_toAsk_76 : decode cX11_toAsk 76 = .ok (.aload_n 0, 1) := by decide +kernel
theorem dX11_toAsk_77 : decode cX11_toAsk 77 = .ok (.getfield 34, 3) := by decide +kernel
theorem dX11_toAsk_80 : decode cX11_toAsk 80 = .ok (.iload_n 2, 1) := by decide +kernel
theorem dX11_toAsk_81 : decode cX11_toAsk 81 = .ok (.invokevirtual 228, 3) := by decide +kernel
theorem dX11_toAsk_84 : decode cX11_toAsk 84 = .ok (.lstore 9, 2) := by decide +kernel
theorem dX11_toAsk_86 : decode cX11_toAsk 86 = .ok (.lload 9, 2) := by decide +kernel
theorem dX11_toAsk_88 : decode cX11_toAsk 88 = .ok (.lload 6, 2) := by decide +kernel
theorem dX11_toAsk_90 : decode cX11_toAsk 90 = .ok (.lcmp, 1) := by decide +kernel
theorem dX11_toAsk_91 : decode cX11_toAsk 91 = .ok (.ifCond .le 19, 3) := by decide +kernel
theorem dX11_toAsk_94 : decode cX11_toAsk 94 = .ok (.lload 9, 2) := by decide +kernel
theorem dX11_toAsk_96 : decode cX11_toAsk 96 = .ok (.lstore 6, 2) := by decide +kernel
theorem dX11_toAsk_98 : decode cX11_toAsk 98 = .ok (.aload_n 0, 1) := by decide +kernel
theorem dX11_toAsk_99 : decode cX11_toAsk 99 = .ok (.getfield 41, 3) := by decide +kernel
theorem dX11_toAsk_102 : decode cX11_toAsk 102 = .ok (.getfield 235, 3) := by decide +kernel
theorem dX11_toAsk_105 : decode cX11_toAsk 105 = .ok (.iload 8, 2) := by decide +kernel
theorem dX11_toAsk_107 : decode cX11_toAsk 107 = .ok (.iaload, 1) := by decide +kernel
theorem dX11_toAsk_108 : decode cX11_toAsk 108 = .ok (.istore 5, 2) := by decide +kernel
theorem dX11_toAsk_110 : decode cX11_toAsk 110 = .ok (.iinc 8 1, 3) := by decide +kernel
theorem dX11_toAsk_113 : decode cX11_toAsk 113 = .ok (.goto (-73), 3) := by decide +kernel
theorem dX11_toAsk_116 : decode cX11_toAsk 116 = .ok (.iload 4, 2) := by decide +kernel
theorem dX11_toAsk_118 : decode cX11_toAsk 118 = .ok (.ifCond .ne 9, 3) := by decide +kernel
theorem dX11_toAsk_121 : decode cX11_toAsk 121 = .ok (.iload 5, 2) := by decide +kernel
theorem dX11_toAsk_123 : decode cX11_toAsk 123 = .ok (.i2l, 1) := by decide +kernel
theorem dX11_toAsk_124 : decode cX11_toAsk 124 = .ok (.goto 5, 3) := by decide +kernel
theorem dX11_toAsk_127 : decode cX11_toAsk 127 = .ok (.lload 6, 2) := by decide +kernel
theorem dX11_toAsk_129 : decode cX11_toAsk 129 = .ok (.lreturn, 1) := by decide +kernel
set_option maxRecDepth 100000 in
def f_s_toAsk (x1 : Int) (x2 : Int) (x3 : Int) (x4 : Int) (V : Nat → Nat → Int) (J : Nat → Nat → Int) (Rr : Nat → Nat → Nat) : (Int × xS) → Prop :=
  calR (f_s_canReckon x1 x2 x3 V J Rr) fun z1 => fct (0 ≤ z1 ∧ z1 ≤ 1) <| (if z1 = 0 then rtn ((-1), (V, J, Rr)) else calR (f_s_isWithin x4 0 1) fun z4 => fct (0 ≤ z4 ∧ z4 ≤ 1) <| (if ¬ z4 = 0 then calSX (fun i k : Nat => (98 ≤ i ∧ i ≤ 104) ∨ (70 ≤ i ∧ i ≤ 70) ∨ (69 ≤ i ∧ i ≤ 71)) V (f_s_livesAsItIs x1 x2 x3 V J Rr) fun z7 V7 J7 R7 => lop6 (5) (fun rc96 (z93 : Int) (z94 : Int) (z95 : Int) (V96 : Nat → Nat → Int) (J96 : Nat → Nat → Int) (R96 : Nat → Nat → Nat) => (if x3 ≤ z93 then (if ¬ x4 = 0 then rtn (z94, (V96, J96, R96)) else rtn (z95, (V96, J96, R96))) else calUX (fun i k : Nat => (98 ≤ i ∧ i ≤ 104)) V96 (f_s_take 1 x1 x3 V96 J96 R96) fun V131 => calUX (fun i k : Nat => (98 ≤ i ∧ i ≤ 104)) V131 (f_s_askC z93 V131 J96 R96) fun V132 => calSX (fun i k : Nat => (98 ≤ i ∧ i ≤ 104) ∨ (70 ≤ i ∧ i ≤ 70) ∨ (69 ≤ i ∧ i ≤ 71)) V132 (f_s_lives 1 x2 V132 J96 R96) fun z133 V133 J133 R133 => jnk (fun (z136 : Int) (z137 : Int) => rc96 (z93 + 1) z136 z137 V133 J133 R133) fun jf138 => (if (lcI z133 z94) ≤ 0 then jf138 z94 z95 else rdb (V133 103 z93.toNat) fun z140 => fct (0 ≤ z140 ∧ z140 ≤ 7) <| jf138 z133 z140))) 0 z7 ((-2)) V7 J7 R7 else rtn ((-1), (V, J, Rr))))
set_option maxHeartbeats 8000000 in
set_option maxRecDepth 100000 in
theorem s_toAsk (l : Launch) (D : va_G) (cy : Nat → ClassId) (ad : Nat → Nat) (G : Nat → Nat → Int) (V J : Nat → Nat → Int) (Rr : Nat → Nat → Nat) (hI : XI G V) (hJ : VJ J) (hR : XR Rr) (x1 : Int) (bx1 : -2147483648 ≤ x1 ∧ x1 ≤ 2147483647) (x2 : Int) (bx2 : -2147483648 ≤ x2 ∧ x2 ≤ 2147483647) (x3 : Int) (bx3 : -2147483648 ≤ x3 ∧ x3 ≤ 2147483647) (x4 : Int) (bx4 : -2147483648 ≤ x4 ∧ x4 ≤ 2147483647) : xMl l D (xTY cy) yX11_toAsk cX11_toAsk 11 (some .long) 7 178 0 0 [.ref (ad 0), vI x1, vI x2, vI x3, vI x4] (XW cy ad V J Rr) (fun u : xS => XW cy ad u.1 u.2.1 u.2.2) (fun a (u : xS) => XS G u ∧ FB (fun i k : Nat => (98 ≤ i ∧ i ≤ 104) ∨ (70 ≤ i ∧ i ≤ 70) ∨ (69 ≤ i ∧ i ≤ 71)) V u.1 ∧ RK u.2.2 Rr ∧ (f_s_toAsk x1 x2 x3 x4 V J Rr) (a, u)) := by
  refine xMl.mk (lv0 := [(0, .ref (ad 0)), (1, vI x1), (2, vI x2), (3, vI x3), (4, vI x4)]) (by decide) rfl (Nat.le_of_ble_eq_true rfl) (fun p e s m below meth c A C hr hnm hAe => ?_)
  have C : xC2 p s m _ meth c D A s.heap 11 cX11_toAsk RX11 (xTY cy) := C
  have hB : FB (fun i k : Nat => (98 ≤ i ∧ i ≤ 104) ∨ (70 ≤ i ∧ i ≤ 70) ∨ (69 ≤ i ∧ i ≤ 71)) V V := FB.rf _ _
  have hF := Imp.of_eq (f_s_toAsk.eq_def x1 x2 x3 x4 V J Rr)
  refine x_aload_n C.1 dX11_toAsk_0 0 rfl ?_
  refine x_iload_n C.1 dX11_toAsk_1 1 rfl ?_
  refine x_iload_n C.1 dX11_toAsk_2 2 rfl ?_
  refine x_iload_n C.1 dX11_toAsk_3 3 rfl ?_
  refine x_callVi C (As := [vI x1, vI x2, vI x3]) (rest := []) 0 (xw_at (N := 129) (i := 0) (by decide) rfl) vc_X11 (s_canReckon l D cy ad G V J Rr hI hJ hR x1 ⟨by omega, by omega⟩ x2 ⟨by omega, by omega⟩ x3 ⟨by omega, by omega⟩) (l1 := []) (l2 := []) (List.append_nil _).symm (w2 := fun _ => XW cy ad V J Rr) (fun _ => List.append_nil _) rfl wm_yX11_canReckon wn_X11 wl_X11_198 wi_yX11_canReckon we_yX11_canReckon hd_yX11_canReckon rfl ⟨Nat.le_of_ble_eq_true rfl, Nat.le_of_ble_eq_true rfl⟩ (Nat.le_of_ble_eq_true rfl) ⟨Nat.le_of_ble_eq_true rfl, Nat.le_of_ble_eq_true rfl⟩ dX11_toAsk_4 (fun z1 u1 bz1 h1 => ?_)
  obtain ⟨hon1, hFc1⟩ := h1
  replace hF := calR_i hF hFc1
  replace hF := hF.fc hon1.r
  have bq1 := Sp.r hon1
  refine x_if_eq C.1 (tgt := 20) dX11_toAsk_7 (by decide) (by omega) (fun hc2 => ?_) (fun hc2 => ?_)
  · replace hF := hF.to (if_pos hc2)
    refine x_ldc2 C.1 (n := -1) wq_X11_201 dX11_toAsk_20 ?_
    exact x_lret (S := xS) (post := (fun a (u : xS) => XS G u ∧ FB (fun i k : Nat => (98 ≤ i ∧ i ≤ 104) ∨ (70 ≤ i ∧ i ≤ 70) ∨ (69 ≤ i ∧ i ≤ 71)) V u.1 ∧ RK u.2.2 Rr ∧ (f_s_toAsk x1 x2 x3 x4 V J Rr) (a, u))) (w1 := (fun u : xS => XW cy ad u.1 u.2.1 u.2.2)) (a := (-1)) C hr rfl dX11_toAsk_23 (by decide) (V, J, Rr) rfl ⟨⟨hI, hJ, hR⟩, hB, (RK.rf _), hF _ rfl⟩
  · replace hF := hF.to (if_neg hc2)
    have hon3 := Sp.on hon1 (by omega)
    refine x_iload C.1 dX11_toAsk_10 4 rfl ?_
    refine x_iconst C.1 (n := 0) dX11_toAsk_12 ?_
    refine x_iconst C.1 (n := 1) dX11_toAsk_13 ?_
    refine x_callSi C (As := [vI x4, vI 0, vI 1]) (rest := []) (s_isWithin l D cy x4 ⟨by omega, by omega⟩ 0 ⟨by decide, by decide⟩ 1 ⟨by decide, by decide⟩) (l1 := []) (l2 := _) rfl (w2 := fun _ => _) (fun _ => rfl) rfl wm_yX11_isWithin wn_X11 wl_X11_74 wi_yX11_isWithin hd_yX11_isWithin rfl ⟨Nat.le_of_ble_eq_true rfl, Nat.le_of_ble_eq_true rfl⟩ (Nat.le_of_ble_eq_true rfl) ⟨Nat.le_of_ble_eq_true rfl, Nat.le_of_ble_eq_true rfl⟩ dX11_toAsk_14 (fun z4 u4 bz4 h4 => ?_)
    obtain ⟨bq4, hx4_0, hFc4⟩ := h4
    replace hF := calR_i hF hFc4
    replace hF := hF.fc bq4
    refine x_if_ne C.1 (tgt := 24) dX11_toAsk_17 (by decide) (by omega) (fun hc5 => ?_) (fun hc5 => ?_)
    · replace hF := hF.to (if_pos hc5)
      have hon6 := Sq.on hx4_0 (by omega)
      refine x_bipush C.1 (n := -2) dX11_toAsk_24 ?_
      refine x_istore C.1 (lv' := [(5, vI (-2)), (0, .ref (ad 0)), (1, vI x1), (2, vI x2), (3, vI x3), (4, vI x4)]) dX11_toAsk_26 (by decide) rfl ?_
      refine x_aload_n C.1 dX11_toAsk_28 1 rfl ?_
      refine x_iload_n C.1 dX11_toAsk_29 2 rfl ?_
      refine x_iload_n C.1 dX11_toAsk_30 3 rfl ?_
      refine x_iload_n C.1 dX11_toAsk_31 4 rfl ?_
      refine x_callVl C (As := [vI x1, vI x2, vI x3]) (rest := []) 0 (xw_at (N := 129) (i := 0) (by decide) rfl) vc_X11 (s_livesAsItIs l D cy ad G V J Rr hI hJ hR x1 ⟨by omega, by omega⟩ x2 ⟨by omega, by omega⟩ x3 ⟨by omega, by omega⟩) (l1 := []) (l2 := []) (List.append_nil _).symm (w2 := fun u : xS => XW cy ad u.1 u.2.1 u.2.2) (fun _ => List.append_nil _) rfl wm_yX11_livesAsItIs wn_X11 wl_X11_203 wi_yX11_livesAsItIs we_yX11_livesAsItIs hd_yX11_livesAsItIs rfl ⟨Nat.le_of_ble_eq_true rfl, Nat.le_of_ble_eq_true rfl⟩ (Nat.le_of_ble_eq_true rfl) ⟨Nat.le_of_ble_eq_true rfl, Nat.le_of_ble_eq_true rfl⟩ dX11_toAsk_32 (fun z7 u7 bz7 h7 => ?_)
      obtain ⟨V7, J7, R7⟩ := u7
      obtain ⟨hS7, hBc7, hEc7, hFc7⟩ := h7
      replace hF := calSX_i hF hFc7 hBc7
      have hB7 := hB.tr hBc7 (fun i k h => (h.elim (fun h => (Or.inl h)) (fun h => (h.elim (fun h => (Or.inr (Or.inl h))) (fun h => (Or.inr (Or.inr (h))))))))
      have hE7 : RK R7 Rr := RK.tr (RK.rf _) hEc7
      obtain ⟨hI7, hJ7, hR7⟩ := hS7
      dsimp only at hI7 hJ7 hR7 ⊢
      refine x_lstore C.1 (lv' := [(6, vJ z7), (5, vI (-2)), (0, .ref (ad 0)), (1, vI x1), (2, vI x2), (3, vI x3), (4, vI x4)]) dX11_toAsk_35 (by decide) rfl ?_
      refine x_iconst C.1 (n := 0) dX11_toAsk_37 ?_
      refine x_istore C.1 (lv' := [(8, vI 0), (6, vJ z7), (5, vI (-2)), (0, .ref (ad 0)), (1, vI x1), (2, vI x2), (3, vI x3), (4, vI x4)]) dX11_toAsk_38 (by decide) rfl ?_
      obtain ⟨bd96, hbd96, hF⟩ := lop6_ex hF
      refine x_loop (I := fun x : Int × Int × Int × (Nat → Nat → Int) × (Nat → Nat → Int) × (Nat → Nat → Nat) => match x with | (z93, z94, z95, V96, J96, R96) => (0 ≤ z93 ∧ z93 ≤ 3) ∧ (-9223372036854775808 ≤ z94 ∧ z94 ≤ 9223372036854775807) ∧ (-2 ≤ z95 ∧ z95 ≤ 7) ∧ XI G V96 ∧ FB (fun i k : Nat => (98 ≤ i ∧ i ≤ 104) ∨ (70 ≤ i ∧ i ≤ 70) ∨ (69 ≤ i ∧ i ≤ 71)) V V96 ∧ VJ J96 ∧ XR R96 ∧ RK R96 Rr ∧ (∃ nf : Nat, (4 - z93).toNat < nf ∧ Imp (lop6 nf bd96 z93 z94 z95 V96 J96 R96) (f_s_toAsk x1 x2 x3 x4 V J Rr))) (μ := fun x : Int × Int × Int × (Nat → Nat → Int) × (Nat → Nat → Int) × (Nat → Nat → Nat) => match x with | (z93, z94, z95, V96, J96, R96) => (4 - z93).toNat) (wsf := fun x : Int × Int × Int × (Nat → Nat → Int) × (Nat → Nat → Int) × (Nat → Nat → Nat) => match x with | (z93, z94, z95, V96, J96, R96) => XW cy ad V96 J96 R96) (lvf := fun x : Int × Int × Int × (Nat → Nat → Int) × (Nat → Nat → Int) × (Nat → Nat → Nat) => match x with | (z93, z94, z95, V96, J96, R96) => [(8, vI z93), (6, vJ z94), (5, vI z95), (0, .ref (ad 0)), (1, vI x1), (2, vI x2), (3, vI x3), (4, vI x4)]) (fun x hI96x ih96 => ?_) (0, z7, (-2), V7, J7, R7) ⟨⟨by decide, by decide⟩, ⟨by omega, by omega⟩, ⟨by decide, by decide⟩, hI7, hB7, hJ7, hR7, hE7, ⟨_, (by omega), hF⟩⟩ rfl rfl
      obtain ⟨z93, z94, z95, V96, J96, R96⟩ := x
      obtain ⟨bz93, bz94, bz95, hI96, hB96, hJ96, hR96, hE96, nf96, hn96, hF⟩ := hI96x
      try dsimp only
      obtain ⟨nf96, rfl⟩ : ∃ mm, nf96 = mm + 1 := ⟨nf96 - 1, (Nat.succ_pred_eq_of_pos (Nat.lt_of_le_of_lt (Nat.zero_le _) hn96)).symm⟩
      replace hF := hF.to (lop6_s hbd96)
      refine x_iload C.1 dX11_toAsk_40 0 rfl ?_
      refine x_iload_n C.1 dX11_toAsk_42 6 rfl ?_
      refine x_icmp_ge C.1 (tgt := 116) dX11_toAsk_43 (by decide) (by omega) (by omega) (fun hc129 => ?_) (fun hc129 => ?_)
      · replace hF := hF.to (if_pos hc129)
        refine x_iload C.1 dX11_toAsk_116 7 rfl ?_
        refine x_if_ne C.1 (tgt := 127) dX11_toAsk_118 (by decide) (by omega) (fun hc130 => ?_) (fun hc130 => ?_)
        · replace hF := hF.to (if_pos hc130)
          refine x_lload C.1 dX11_toAsk_127 1 rfl ?_
          exact x_lret (S := xS) (post := (fun a (u : xS) => XS G u ∧ FB (fun i k : Nat => (98 ≤ i ∧ i ≤ 104) ∨ (70 ≤ i ∧ i ≤ 70) ∨ (69 ≤ i ∧ i ≤ 71)) V u.1 ∧ RK u.2.2 Rr ∧ (f_s_toAsk x1 x2 x3 x4 V J Rr) (a, u))) (w1 := (fun u : xS => XW cy ad u.1 u.2.1 u.2.2)) (a := z94) C hr rfl dX11_toAsk_129 (by omega) (V96, J96, R96) rfl ⟨⟨hI96, hJ96, hR96⟩, hB96, hE96, hF _ rfl⟩
        · replace hF := hF.to (if_neg (fun hh => hh hc130))
          refine x_iload C.1 dX11_toAsk_121 2 rfl ?_
          refine x_i2l C.1 dX11_toAsk_123 (by omega) ?_
          refine x_goto C.1 (tgt := 129) dX11_toAsk_124 (by decide) ?_
          exact x_lret (S := xS) (post := (fun a (u : xS) => XS G u ∧ FB (fun i k : Nat => (98 ≤ i ∧ i ≤ 104) ∨ (70 ≤ i ∧ i ≤ 70) ∨ (69 ≤ i ∧ i ≤ 71)) V u.1 ∧ RK u.2.2 Rr ∧ (f_s_toAsk x1 x2 x3 x4 V J Rr) (a, u))) (w1 := (fun u : xS => XW cy ad u.1 u.2.1 u.2.2)) (a := z95) C hr rfl dX11_toAsk_129 (by omega) (V96, J96, R96) rfl ⟨⟨hI96, hJ96, hR96⟩, hB96, hE96, hF _ rfl⟩
      · replace hF := hF.to (if_neg hc129)
        refine x_aload_n C.1 dX11_toAsk_46 3 rfl ?_
        refine x_getA C (N := 129) (i := 0) (by decide) rfl vc_X11 wx_X11 6 (by decide) wf_X11_41 (a := 98) rfl dX11_toAsk_47 ?_
        refine x_aload_n C.1 dX11_toAsk_50 3 rfl ?_
        refine x_getA C (N := 129) (i := 0) (by decide) rfl vc_X11 wx_X11 0 (by decide) wf_X11_10 (a := 1) rfl dX11_toAsk_51 ?_
        refine x_iload_n C.1 dX11_toAsk_54 4 rfl ?_
        refine x_iload_n C.1 dX11_toAsk_55 6 rfl ?_
        refine x_callVv C (As := [.ref (ad 1), vI x1, vI x3]) (rest := []) 98 (xw_at (N := 129) (i := 98) (by decide) rfl) vc_X2 (s_take l D cy ad G V96 J96 R96 hI96 hJ96 hR96 1 (Or.inl rfl) x1 ⟨by omega, by omega⟩ x3 ⟨by omega, by omega⟩) (l1 := []) (l2 := []) (List.append_nil _).symm (w2 := fun u : Nat → Nat → Int => XW cy ad u J96 R96) (fun _ => List.append_nil _) rfl wm_yX2_take wn_X2 wl_X11_215 wi_yX2_take we_yX2_take hd_yX2_take rfl ⟨Nat.le_of_ble_eq_true rfl, Nat.le_of_ble_eq_true rfl⟩ (Nat.le_of_ble_eq_true rfl) ⟨Nat.le_of_ble_eq_true rfl, Nat.le_of_ble_eq_true rfl⟩ dX11_toAsk_56 (fun V131 h131 => ?_)
        obtain ⟨hI131, hBc131, hFc131⟩ := h131
        replace hF := calUX_i hF hFc131 hBc131
        have hB131 := hB96.tr hBc131 (fun i k h => (Or.inl h))
        refine x_aload_n C.1 dX11_toAsk_59 3 rfl ?_
        refine x_getA C (N := 129) (i := 0) (by decide) rfl vc_X11 wx_X11 6 (by decide) wf_X11_41 (a := 98) rfl dX11_toAsk_60 ?_
        refine x_iload C.1 dX11_toAsk_63 0 rfl ?_
        refine x_callVv C (As := [vI z93]) (rest := []) 98 (xw_at (N := 129) (i := 98) (by decide) rfl) vc_X2 (s_askC l D cy ad G V131 J96 R96 hI131 hJ96 hR96 z93 ⟨by omega, by omega⟩) (l1 := []) (l2 := []) (List.append_nil _).symm (w2 := fun u : Nat → Nat → Int => XW cy ad u J96 R96) (fun _ => List.append_nil _) rfl wm_yX2_ask wn_X2 wl_X11_232 wi_yX2_ask we_yX2_ask hd_yX2_ask rfl ⟨Nat.le_of_ble_eq_true rfl, Nat.le_of_ble_eq_true rfl⟩ (Nat.le_of_ble_eq_true rfl) ⟨Nat.le_of_ble_eq_true rfl, Nat.le_of_ble_eq_true rfl⟩ dX11_toAsk_65 (fun V132 h132 => ?_)
        obtain ⟨hI132, hBc132, hFc132⟩ := h132
        replace hF := calUX_i hF hFc132 hBc132
        have hB132 := hB131.tr hBc132 (fun i k h => (Or.inl h))
        refine x_aload_n C.1 dX11_toAsk_68 3 rfl ?_
        refine x_getA C (N := 129) (i := 0) (by decide) rfl vc_X11 wx_X11 6 (by decide) wf_X11_41 (a := 98) rfl dX11_toAsk_69 ?_
        refine x_aload_n C.1 dX11_toAsk_72 3 rfl ?_
        refine x_getA C (N := 129) (i := 0) (by decide) rfl vc_X11 wx_X11 0 (by decide) wf_X11_10 (a := 1) rfl dX11_toAsk_73 ?_
        refine x_aload_n C.1 dX11_toAsk_76 3 rfl ?_
        refine x_getA C (N := 129) (i := 0) (by decide) rfl vc_X11 wx_X11 5 (by decide) wf_X11_34 (a := 60) rfl dX11_toAsk_77 ?_
        refine x_iload_n C.1 dX11_toAsk_80 5 rfl ?_
        refine x_callVl C (As := [.ref (ad 1), .ref (ad 60), vI x2]) (rest := []) 98 (xw_at (N := 129) (i := 98) (by decide) rfl) vc_X2 (s_lives l D cy ad G V132 J96 R96 hI132 hJ96 hR96 1 (Or.inl rfl) x2 ⟨by omega, by omega⟩) (l1 := []) (l2 := []) (List.append_nil _).symm (w2 := fun u : xS => XW cy ad u.1 u.2.1 u.2.2) (fun _ => List.append_nil _) rfl wm_yX2_lives wn_X2 wl_X11_228 wi_yX2_lives we_yX2_lives hd_yX2_lives rfl ⟨Nat.le_of_ble_eq_true rfl, Nat.le_of_ble_eq_true rfl⟩ (Nat.le_of_ble_eq_true rfl) ⟨Nat.le_of_ble_eq_true rfl, Nat.le_of_ble_eq_true rfl⟩ dX11_toAsk_81 (fun z133 u133 bz133 h133 => ?_)
        obtain ⟨V133, J133, R133⟩ := u133
        obtain ⟨hS133, hBc133, hEc133, hFc133⟩ := h133
        replace hF := calSX_i hF hFc133 hBc133
        have hB133 := hB132.tr hBc133 (fun i k h => (h.elim (fun h => (Or.inl h)) (fun h => (h.elim (fun h => (Or.inr (Or.inl h))) (fun h => (Or.inr (Or.inr (h))))))))
        have hE133 : RK R133 Rr := RK.tr hE96 hEc133
        obtain ⟨hI133, hJ133, hR133⟩ := hS133
        dsimp only at hI133 hJ133 hR133 ⊢
        refine x_lstore C.1 (lv' := [(9, vJ z133), (8, vI z93), (6, vJ z94), (5, vI z95), (0, .ref (ad 0)), (1, vI x1), (2, vI x2), (3, vI x3), (4, vI x4)]) dX11_toAsk_84 (by decide) rfl ?_
        refine x_lload C.1 dX11_toAsk_86 0 rfl ?_
        refine x_lload C.1 dX11_toAsk_88 2 rfl ?_
        refine x_lcmp C.1 rfl dX11_toAsk_90 (by omega) (by omega) ?_
        have bz134 := lcI_r2 z133 z94
        obtain ⟨jf138, hjf138, hF⟩ := jn_ex hF
        refine x_join (I := fun x : Int × Int => match x with | (z136, z137) => (-9223372036854775808 ≤ z136 ∧ z136 ≤ 9223372036854775807) ∧ (-2 ≤ z137 ∧ z137 ≤ 7) ∧ Imp (jf138 z136 z137) (f_s_toAsk x1 x2 x3 x4 V J Rr)) (wsf := fun x : Int × Int => match x with | (z136, z137) => XW cy ad V133 J133 R133) (lvf := fun x : Int × Int => match x with | (z136, z137) => [(9, vJ z133), (8, vI z93), (6, vJ z136), (5, vI z137), (0, .ref (ad 0)), (1, vI x1), (2, vI x2), (3, vI x3), (4, vI x4)]) (stf := fun x : Int × Int => match x with | (z136, z137) => []) 110 (fun x hI138x => ?_) (fun jn138 => ?_)
        · obtain ⟨z136, z137⟩ := x
          obtain ⟨bz136, bz137, hF⟩ := hI138x
          try dsimp only
          replace hF := hF.to (jn_s2 hjf138)
          refine x_iinc C.1 (v := z93 + 1) (lv' := [(8, vI (z93 + 1)), (9, vJ z133), (6, vJ z136), (5, vI z137), (0, .ref (ad 0)), (1, vI x1), (2, vI x2), (3, vI x3), (4, vI x4)]) (by omega) dX11_toAsk_110 1 rfl (by decide) rfl ?_
          refine x_goto C.1 (tgt := 40) dX11_toAsk_113 (by decide) ?_
          refine x_lv [(8, vI (z93 + 1)), (6, vJ z136), (5, vI z137), (0, .ref (ad 0)), (1, vI x1), (2, vI x2), (3, vI x3), (4, vI x4)] [0, 2, 3, 4, 5, 6, 7, 8] rfl ?_
          have hmu96 : (4 - (z93 + 1)).toNat < (4 - z93).toNat := (by omega)
          exact ih96 (z93 + 1, z136, z137, V133, J133, R133) ⟨⟨by omega, by omega⟩, ⟨by omega, by omega⟩, ⟨by omega, by omega⟩, hI133, hB133, hJ133, hR133, hE133, ⟨nf96, Nat.lt_of_lt_of_le hmu96 (Nat.le_of_lt_succ hn96), hF⟩⟩ hmu96
        · refine x_if_le C.1 (tgt := 110) dX11_toAsk_91 (by decide) (by omega) (fun hc139 => ?_) (fun hc139 => ?_)
          · replace hF := hF.to (if_pos hc139)
            rw [lcI_le] at hc139
            exact jn138 (z94, z95) ⟨⟨by omega, by omega⟩, ⟨by omega, by omega⟩, hF⟩
          · replace hF := hF.to (if_neg hc139)
            rw [lcI_le] at hc139
            refine x_lload C.1 dX11_toAsk_94 0 rfl ?_
            refine x_lstore C.1 (lv' := [(6, vJ z133), (9, vJ z133), (8, vI z93), (5, vI z95), (0, .ref (ad 0)), (1, vI x1), (2, vI x2), (3, vI x3), (4, vI x4)]) dX11_toAsk_96 (by decide) rfl ?_
            refine x_aload_n C.1 dX11_toAsk_98 4 rfl ?_
            refine x_getA C (N := 129) (i := 0) (by decide) rfl vc_X11 wx_X11 6 (by decide) wf_X11_41 (a := 98) rfl dX11_toAsk_99 ?_
            refine x_getA C (N := 129) (i := 98) (by decide) rfl vc_X2 wx_X2 6 (by decide) wf_X11_235 (a := 103) rfl dX11_toAsk_102 ?_
            refine x_iload C.1 dX11_toAsk_105 2 rfl ?_
            obtain ⟨z140, ez140, bz140⟩ := hI133.rd 103 z93.toNat (x := 0) (y := 7) rfl
            replace hF := hF.to (rdb_e (z := z140) ez140)
            replace hF := hF.fc bz140
            refine x_iald C (N := 129) (i := 103) (q := z93) (by decide) rfl (by omega) (by decide) dX11_toAsk_107 (a := z140) ez140 ?_
            refine x_istore C.1 (lv' := [(5, vI z140), (6, vJ z133), (9, vJ z133), (8, vI z93), (0, .ref (ad 0)), (1, vI x1), (2, vI x2), (3, vI x3), (4, vI x4)]) dX11_toAsk_108 (by decide) rfl ?_
            refine x_lv [(9, vJ z133), (8, vI z93), (6, vJ z133), (5, vI z140), (0, .ref (ad 0)), (1, vI x1), (2, vI x2), (3, vI x3), (4, vI x4)] [2, 3, 1, 0, 4, 5, 6, 7, 8] rfl ?_
            exact jn138 (z133, z140) ⟨⟨by omega, by omega⟩, ⟨by omega, by omega⟩, hF⟩
    · replace hF := hF.to (if_neg (fun hh => hh hc5))
      refine x_ldc2 C.1 (n := -1) wq_X11_201 dX11_toAsk_20 ?_
      exact x_lret (S := xS) (post := (fun a (u : xS) => XS G u ∧ FB (fun i k : Nat => (98 ≤ i ∧ i ≤ 104) ∨ (70 ≤ i ∧ i ≤ 70) ∨ (69 ≤ i ∧ i ≤ 71)) V u.1 ∧ RK u.2.2 Rr ∧ (f_s_toAsk x1 x2 x3 x4 V J Rr) (a, u))) (w1 := (fun u : xS => XW cy ad u.1 u.2.1 u.2.2)) (a := (-1)) C hr rfl dX11_toAsk_23 (by decide) (V, J, Rr) rfl ⟨⟨hI, hJ, hR⟩, hB, (RK.rf _), hF _ rfl⟩
theorem hd_yX2_onlyFirst : yX2_onlyFirst.cls ≠ "java/lang/invoke/MethodHandle" ∧ yX2_onlyFirst.cls ≠ "java/lang/invoke/VarHandle" ∧ (parseMethodDescriptor yX2_onlyFirst.desc).map (fun d => d.parameters.length) = some 1 := by decide +kernel
theorem dX11_few_0 : decode cX11_few 0 = .ok (.aload_n 0, 1) := by decide +kernel
theorem dX11_few_1 : decode cX11_few 1 = .ok (.iload_n 1, 1) := by decide +kernel
theorem dX11_few_2 : decode cX11_few 2 = .ok (.iload_n 2, 1) := by decide +kernel
theorem dX11_few_3 : decode cX11_few 3 = .ok (.iload_n 3, 1) := by decide +kernel
theorem dX11_few_4 : decode cX11_few 4 = .ok (.invokevirtual 198, 3) := by decide +kernel
theorem dX11_few_7 : decode cX11_few 7 = .ok (.ifCond .eq 14, 3) := by decide +kernel
theorem dX11_few_10 : decode cX11_few 10 = .ok (.iload 4, 2) := by decide +kernel
theorem dX11_few_12 : decode cX11_few 12 = .ok (.iconst 0, 1) := by decide +kernel
theorem dX11_few_13 : decode cX11_few 13 = .ok (.bipush 10, 2) := by decide +kernel
theorem dX11_few_15 : decode cX11_few 15 = .ok (.invokestatic 74, 3) := by decide +kernel
theorem dX11_few_18 : decode cX11_few 18 = .ok (.ifCond .ne 5, 3) := by decide +kernel
theorem dX11_few_21 : decode cX11_few 21 = .ok (.iconst (-1), 1) := by decide +kernel
theorem dX11_few_22 : decode cX11_few 22 = .ok (.ireturn, 1) := by decide +kernel
theorem dX11_few_23 : decode cX11_few 23 = .ok (.iconst 0, 1) := by decide +kernel
theorem dX11_few_24 : decode cX11_few 24 = .ok (.istore 5, 2) := by decide +kernel
theorem dX11_few_26 : decode cX11_few 26 = .ok (.iload 5, 2) := by decide +kernel
theorem dX11_few_28 : decode cX11_few 28 = .ok (.iload_n 3, 1) := by decide +kernel
theorem dX11_few_29 : decode cX11_few 29 = .ok (.if_icmp .gt 73, 3) := by decide +kernel
theorem dX11_few_32 : decode cX11_few 32 = .ok (.aload_n 0, 1) := by decide +kernel
theorem dX11_few_33 : decode cX11_few 33 = .ok (.getfield 41, 3) := by decide +kernel
theorem dX11_few_36 : decode cX11_few 36 = .ok (.aload_n 0, 1) := by decide +kernel
theorem dX11_few_37 : decode cX11_few 37 = .ok (.getfield 10, 3) := by decide +kernel
theorem dX11_few_40 : decode cX11_few 40 = .ok (.iload_n 1, 1) := by decide +kernel
theorem dX11_few_41 : decode cX11_few 41 = .ok (.iload_n 3, 1) := by decide +kernel
theorem dX11_few_42 : decode cX11_few 42 = .ok (.invokevirtual 215, 3) := by decide +kernel
theorem dX11_few_45 : decode cX11_few 45 = .ok (.aload_n 0, 1) := by decide +kernel
theorem dX11_few_46 : decode cX11_few 46 = .ok (.getfield 41, 3) := by decide +kernel
theorem dX11_few_49 : decode cX11_few 49 = .ok (.iload 5, 2) := by decide +kernel
theorem dX11_few_51 : decode cX11_few 51 = .ok (.invokevirtual 238, 3) := by decide +kernel
theorem dX11_few_54 : decode cX11_few 54 = .ok (.aload_n 0, 1) := by decide +kernel
theorem dX11_few_55 : decode cX11_few 55 = .ok (.getfield 41, 3) := by decide +kernel
theorem dX11_few_58 : decode cX11_few 58 = .ok (.aload_n 0, 1) := by decide +kernel
theorem dX11_few_59 : decode cX11_few 59 = .ok (.getfield 10, 3) := by decide +kernel
theorem dX11_few_62 : decode cX11_few 62 = .ok (.aload_n 0, 1) := by decide +kernel
theorem dX11_few_63 : decode cX11_few 63 = .ok (.getfield 34, 3) := by decide +kernel
theorem dX11_few_66 : decode cX11_few 66 = .ok (.iload_n 2, 1) := by decide +kernel
theorem dX11_few_67 : decode cX11_few 67 = .ok (.invokevirtual 228, 3) := by decide +kernel
theorem dX11_few_70 : decode cX11_few 70 = .ok (.lstore 6, 2) := by decide +kernel
theorem dX11_few_72 : decode cX11_few 72 = .ok (.lload 6, 2) := by decide +kernel
theorem dX11_few_74 : decode cX11_few 74 = .ok (.iload 4, 2) := by decide +kernel
theorem dX11_few_76 : decode cX11_few 76 = .ok (.i2l, 1) := by decide +kernel
theorem dX11_few_77 : decode cX11_few 77 = .ok (.aload_n 0, 1) := by decide +kernel
theorem dX11_few_78 : decode cX11_few 78 = .ok (.getfield 41, 3) := by decide +kernel
theorem dX11_few_81 : decode cX11_few 81 = .ok (.getfield 207, 3) := by decide +kernel
theorem dX11_few_84 : decode cX11_few 84 = .ok (.ldc2_w 241, 3) := by decide +kernel
theorem dX11_few_87 : decode cX11_few 87 = .ok (.ldiv, 1) := by decide +kernel
theorem dX11_few_88 : decode cX11_few 88 = .ok (.lmul, 1) := by decide +kernel
theorem dX11_few_89 : decode cX11_few 89 = .ok (.lcmp, 1) := by decide +kernel
theorem dX11_few_90 : decode cX11_few 90 = .ok (.ifCond .lt 6, 3) := by decide +kernel
theorem dX11_few_93 : decode cX11_few 93 = .ok (.iload 5, 2) := by decide +kernel
theorem dX11_few_95 : decode cX11_few 95 = .ok (.ireturn, 1) := by decide +kernel
theorem dX11_few_96 : decode cX11_few 96 = .ok (.iinc 5 1, 3) := by decide +kernel
theorem dX11_few_99 : decode cX11_few 99 = .ok (.goto (-73), 3) := by decide +kernel
theorem dX11_few_102 : decode cX11_few 102 = .ok (.bipush (-2), 2) := by decide +kernel
theorem dX11_few_104 : decode cX11_few 104 = .ok (.ireturn, 1) := by decide +kernel
set_option maxRecDepth 100000 in
def f_s_few (x1 : Int) (x2 : Int) (x3 : Int) (x4 : Int) (V : Nat → Nat → Int) (J : Nat → Nat → Int) (Rr : Nat → Nat → Nat) : (Int × xS) → Prop :=
  calR (f_s_canReckon x1 x2 x3 V J Rr) fun z1 => fct (0 ≤ z1 ∧ z1 ≤ 1) <| (if z1 = 0 then rtn ((-1), (V, J, Rr)) else calR (f_s_isWithin x4 0 10) fun z4 => fct (0 ≤ z4 ∧ z4 ≤ 1) <| (if ¬ z4 = 0 then lop4 (6) (fun rc65 (z64 : Int) (V65 : Nat → Nat → Int) (J65 : Nat → Nat → Int) (R65 : Nat → Nat → Nat) => (if x3 < z64 then rtn ((-2), (V65, J65, R65)) else calUX (fun i k : Nat => (98 ≤ i ∧ i ≤ 104)) V65 (f_s_take 1 x1 x3 V65 J65 R65) fun V76 => calUX (fun i k : Nat => (98 ≤ i ∧ i ≤ 104)) V76 (f_s_onlyFirst z64 V76 J65 R65) fun V77 => calSX (fun i k : Nat => (98 ≤ i ∧ i ≤ 104) ∨ (70 ≤ i ∧ i ≤ 70) ∨ (69 ≤ i ∧ i ≤ 71)) V77 (f_s_lives 1 x2 V77 J65 R65) fun z78 V78 J78 R78 => rdb (J78 98 16) fun z79 => rdb (jDiv z79 10) fun z80 => rdb (wrJ (x4 * z80)) fun z81 => (if (lcI z78 z81) < 0 then rc65 (z64 + 1) V78 J78 R78 else rtn (z64, (V78, J78, R78))))) 0 V J Rr else rtn ((-1), (V, J, Rr))))
set_option maxHeartbeats 8000000 in
set_option maxRecDepth 100000 in
theorem s_few (l : Launch) (D : va_G) (cy : Nat → ClassId) (ad : Nat → Nat) (G : Nat → Nat → Int) (V J : Nat → Nat → Int) (Rr : Nat → Nat → Nat) (hI : XI G V) (hJ : VJ J) (hR : XR Rr) (x1 : Int) (bx1 : -2147483648 ≤ x1 ∧ x1 ≤ 2147483647) (x2 : Int) (bx2 : -2147483648 ≤ x2 ∧ x2 ≤ 2147483647) (x3 : Int) (bx3 : -2147483648 ≤ x3 ∧ x3 ≤ 2147483647) (x4 : Int) (bx4 : -2147483648 ≤ x4 ∧ x4 ≤ 2147483647) : xMi l D (xTY cy) yX11_few cX11_few 8 (some .int) 6 155 0 0 [.ref (ad 0), vI x1, vI x2, vI x3, vI x4] (XW cy ad V J Rr) (fun u : xS => XW cy ad u.1 u.2.1 u.2.2) (fun a (u : xS) => XS G u ∧ FB (fun i k : Nat => (98 ≤ i ∧ i ≤ 104) ∨ (70 ≤ i ∧ i ≤ 70) ∨ (69 ≤ i ∧ i ≤ 71)) V u.1 ∧ RK u.2.2 Rr ∧ (f_s_few x1 x2 x3 x4 V J Rr) (a, u)) := by
  refine xMi.mk (lv0 := [(0, .ref (ad 0)), (1, vI x1), (2, vI x2), (3, vI x3), (4, vI x4)]) (by decide) rfl (Nat.le_of_ble_eq_true rfl) (fun p e s m below meth c A C hr hnm hAe => ?_)
  have C : xC2 p s m _ meth c D A s.heap 8 cX11_few RX11 (xTY cy) := C
  have hB : FB (fun i k : Nat => (98 ≤ i ∧ i ≤ 104) ∨ (70 ≤ i ∧ i ≤ 70) ∨ (69 ≤ i ∧ i ≤ 71)) V V := FB.rf _ _
  have hF := Imp.of_eq (f_s_few.eq_def x1 x2 x3 x4 V J Rr)
  refine x_aload_n C.1 dX11_few_0 0 rfl ?_
  refine x_iload_n C.1 dX11_few_1 1 rfl ?_
  refine x_iload_n C.1 dX11_few_2 2 rfl ?_
  refine x_iload_n C.1 dX11_few_3 3 rfl ?_
  refine x_callVi C (As := [vI x1, vI x2, vI x3]) (rest := []) 0 (xw_at (N := 129) (i := 0) (by decide) rfl) vc_X11 (s_canReckon l D cy ad G V J Rr hI hJ hR x1 ⟨by omega, by omega⟩ x2 ⟨by omega, by omega⟩ x3 ⟨by omega, by omega⟩) (l1 := []) (l2 := []) (List.append_nil _).symm (w2 := fun _ => XW cy ad V J Rr) (fun _ => List.append_nil _) rfl wm_yX11_canReckon wn_X11 wl_X11_198 wi_yX11_canReckon we_yX11_canReckon hd_yX11_canReckon rfl ⟨Nat.le_of_ble_eq_true rfl, Nat.le_of_ble_eq_true rfl⟩ (Nat.le_of_ble_eq_true rfl) ⟨Nat.le_of_ble_eq_true rfl, Nat.le_of_ble_eq_true rfl⟩ dX11_few_4 (fun z1 u1 bz1 h1 => ?_)
  obtain ⟨hon1, hFc1⟩ := h1
  replace hF := calR_i hF hFc1
  replace hF := hF.fc hon1.r
  have bq1 := Sp.r hon1
  refine x_if_eq C.1 (tgt := 21) dX11_few_7 (by decide) (by omega) (fun hc2 => ?_) (fun hc2 => ?_)
  · replace hF := hF.to (if_pos hc2)
    refine x_iconst C.1 (n := -1) dX11_few_21 ?_
    exact x_iret (S := xS) (post := (fun a (u : xS) => XS G u ∧ FB (fun i k : Nat => (98 ≤ i ∧ i ≤ 104) ∨ (70 ≤ i ∧ i ≤ 70) ∨ (69 ≤ i ∧ i ≤ 71)) V u.1 ∧ RK u.2.2 Rr ∧ (f_s_few x1 x2 x3 x4 V J Rr) (a, u))) (w1 := (fun u : xS => XW cy ad u.1 u.2.1 u.2.2)) (a := (-1)) C hr rfl dX11_few_22 (by decide) (V, J, Rr) rfl ⟨⟨hI, hJ, hR⟩, hB, (RK.rf _), hF _ rfl⟩
  · replace hF := hF.to (if_neg hc2)
    have hon3 := Sp.on hon1 (by omega)
    refine x_iload C.1 dX11_few_10 4 rfl ?_
    refine x_iconst C.1 (n := 0) dX11_few_12 ?_
    refine x_bipush C.1 (n := 10) dX11_few_13 ?_
    refine x_callSi C (As := [vI x4, vI 0, vI 10]) (rest := []) (s_isWithin l D cy x4 ⟨by omega, by omega⟩ 0 ⟨by decide, by decide⟩ 10 ⟨by decide, by decide⟩) (l1 := []) (l2 := _) rfl (w2 := fun _ => _) (fun _ => rfl) rfl wm_yX11_isWithin wn_X11 wl_X11_74 wi_yX11_isWithin hd_yX11_isWithin rfl ⟨Nat.le_of_ble_eq_true rfl, Nat.le_of_ble_eq_true rfl⟩ (Nat.le_of_ble_eq_true rfl) ⟨Nat.le_of_ble_eq_true rfl, Nat.le_of_ble_eq_true rfl⟩ dX11_few_15 (fun z4 u4 bz4 h4 => ?_)
    obtain ⟨bq4, hx4_0, hFc4⟩ := h4
    replace hF := calR_i hF hFc4
    replace hF := hF.fc bq4
    refine x_if_ne C.1 (tgt := 23) dX11_few_18 (by decide) (by omega) (fun hc5 => ?_) (fun hc5 => ?_)
    · replace hF := hF.to (if_pos hc5)
      have hon6 := Sq.on hx4_0 (by omega)
      refine x_iconst C.1 (n := 0) dX11_few_23 ?_
      refine x_istore C.1 (lv' := [(5, vI 0), (0, .ref (ad 0)), (1, vI x1), (2, vI x2), (3, vI x3), (4, vI x4)]) dX11_few_24 (by decide) rfl ?_
      obtain ⟨bd65, hbd65, hF⟩ := lop4_ex hF
      refine x_loop (I := fun x : Int × (Nat → Nat → Int) × (Nat → Nat → Int) × (Nat → Nat → Nat) => match x with | (z64, V65, J65, R65) => (0 ≤ z64 ∧ z64 ≤ 4) ∧ XI G V65 ∧ FB (fun i k : Nat => (98 ≤ i ∧ i ≤ 104) ∨ (70 ≤ i ∧ i ≤ 70) ∨ (69 ≤ i ∧ i ≤ 71)) V V65 ∧ VJ J65 ∧ XR R65 ∧ RK R65 Rr ∧ (∃ nf : Nat, (5 - z64).toNat < nf ∧ Imp (lop4 nf bd65 z64 V65 J65 R65) (f_s_few x1 x2 x3 x4 V J Rr))) (μ := fun x : Int × (Nat → Nat → Int) × (Nat → Nat → Int) × (Nat → Nat → Nat) => match x with | (z64, V65, J65, R65) => (5 - z64).toNat) (wsf := fun x : Int × (Nat → Nat → Int) × (Nat → Nat → Int) × (Nat → Nat → Nat) => match x with | (z64, V65, J65, R65) => XW cy ad V65 J65 R65) (lvf := fun x : Int × (Nat → Nat → Int) × (Nat → Nat → Int) × (Nat → Nat → Nat) => match x with | (z64, V65, J65, R65) => [(5, vI z64), (0, .ref (ad 0)), (1, vI x1), (2, vI x2), (3, vI x3), (4, vI x4)]) (fun x hI65x ih65 => ?_) (0, V, J, Rr) ⟨⟨by decide, by decide⟩, hI, hB, hJ, hR, (RK.rf _), ⟨_, (by omega), hF⟩⟩ rfl rfl
      obtain ⟨z64, V65, J65, R65⟩ := x
      obtain ⟨bz64, hI65, hB65, hJ65, hR65, hE65, nf65, hn65, hF⟩ := hI65x
      try dsimp only
      obtain ⟨nf65, rfl⟩ : ∃ mm, nf65 = mm + 1 := ⟨nf65 - 1, (Nat.succ_pred_eq_of_pos (Nat.lt_of_le_of_lt (Nat.zero_le _) hn65)).symm⟩
      replace hF := hF.to (lop4_s hbd65)
      refine x_iload C.1 dX11_few_26 0 rfl ?_
      refine x_iload_n C.1 dX11_few_28 4 rfl ?_
      refine x_icmp_gt C.1 (tgt := 102) dX11_few_29 (by decide) (by omega) (by omega) (fun hc75 => ?_) (fun hc75 => ?_)
      · replace hF := hF.to (if_pos hc75)
        refine x_bipush C.1 (n := -2) dX11_few_102 ?_
        exact x_iret (S := xS) (post := (fun a (u : xS) => XS G u ∧ FB (fun i k : Nat => (98 ≤ i ∧ i ≤ 104) ∨ (70 ≤ i ∧ i ≤ 70) ∨ (69 ≤ i ∧ i ≤ 71)) V u.1 ∧ RK u.2.2 Rr ∧ (f_s_few x1 x2 x3 x4 V J Rr) (a, u))) (w1 := (fun u : xS => XW cy ad u.1 u.2.1 u.2.2)) (a := (-2)) C hr rfl dX11_few_104 (by decide) (V65, J65, R65) rfl ⟨⟨hI65, hJ65, hR65⟩, hB65, hE65, hF _ rfl⟩
      · replace hF := hF.to (if_neg hc75)
        refine x_aload_n C.1 dX11_few_32 1 rfl ?_
        refine x_getA C (N := 129) (i := 0) (by decide) rfl vc_X11 wx_X11 6 (by decide) wf_X11_41 (a := 98) rfl dX11_few_33 ?_
        refine x_aload_n C.1 dX11_few_36 1 rfl ?_
        refine x_getA C (N := 129) (i := 0) (by decide) rfl vc_X11 wx_X11 0 (by decide) wf_X11_10 (a := 1) rfl dX11_few_37 ?_
        refine x_iload_n C.1 dX11_few_40 2 rfl ?_
        refine x_iload_n C.1 dX11_few_41 4 rfl ?_
        refine x_callVv C (As := [.ref (ad 1), vI x1, vI x3]) (rest := []) 98 (xw_at (N := 129) (i := 98) (by decide) rfl) vc_X2 (s_take l D cy ad G V65 J65 R65 hI65 hJ65 hR65 1 (Or.inl rfl) x1 ⟨by omega, by omega⟩ x3 ⟨by omega, by omega⟩) (l1 := []) (l2 := []) (List.append_nil _).symm (w2 := fun u : Nat → Nat → Int => XW cy ad u J65 R65) (fun _ => List.append_nil _) rfl wm_yX2_take wn_X2 wl_X11_215 wi_yX2_take we_yX2_take hd_yX2_take rfl ⟨Nat.le_of_ble_eq_true rfl, Nat.le_of_ble_eq_true rfl⟩ (Nat.le_of_ble_eq_true rfl) ⟨Nat.le_of_ble_eq_true rfl, Nat.le_of_ble_eq_true rfl⟩ dX11_few_42 (fun V76 h76 => ?_)
        obtain ⟨hI76, hBc76, hFc76⟩ := h76
        replace hF := calUX_i hF hFc76 hBc76
        have hB76 := hB65.tr hBc76 (fun i k h => (Or.inl h))
        refine x_aload_n C.1 dX11_few_45 1 rfl ?_
        refine x_getA C (N := 129) (i := 0) (by decide) rfl vc_X11 wx_X11 6 (by decide) wf_X11_41 (a := 98) rfl dX11_few_46 ?_
        refine x_iload C.1 dX11_few_49 0 rfl ?_
        refine x_callVv C (As := [vI z64]) (rest := []) 98 (xw_at (N := 129) (i := 98) (by decide) rfl) vc_X2 (s_onlyFirst l D cy ad G V76 J65 R65 hI76 hJ65 hR65 z64 ⟨by omega, by omega⟩) (l1 := []) (l2 := []) (List.append_nil _).symm (w2 := fun u : Nat → Nat → Int => XW cy ad u J65 R65) (fun _ => List.append_nil _) rfl wm_yX2_onlyFirst wn_X2 wl_X11_238 wi_yX2_onlyFirst we_yX2_onlyFirst hd_yX2_onlyFirst rfl ⟨Nat.le_of_ble_eq_true rfl, Nat.le_of_ble_eq_true rfl⟩ (Nat.le_of_ble_eq_true rfl) ⟨Nat.le_of_ble_eq_true rfl, Nat.le_of_ble_eq_true rfl⟩ dX11_few_51 (fun V77 h77 => ?_)
        obtain ⟨hI77, hBc77, hFc77⟩ := h77
        replace hF := calUX_i hF hFc77 hBc77
        have hB77 := hB76.tr hBc77 (fun i k h => (Or.inl h))
        refine x_aload_n C.1 dX11_few_54 1 rfl ?_
        refine x_getA C (N := 129) (i := 0) (by decide) rfl vc_X11 wx_X11 6 (by decide) wf_X11_41 (a := 98) rfl dX11_few_55 ?_
        refine x_aload_n C.1 dX11_few_58 1 rfl ?_
        refine x_getA C (N := 129) (i := 0) (by decide) rfl vc_X11 wx_X11 0 (by decide) wf_X11_10 (a := 1) rfl dX11_few_59 ?_
        refine x_aload_n C.1 dX11_few_62 1 rfl ?_
        refine x_getA C (N := 129) (i := 0) (by decide) rfl vc_X11 wx_X11 5 (by decide) wf_X11_34 (a := 60) rfl dX11_few_63 ?_
        refine x_iload_n C.1 dX11_few_66 3 rfl ?_
        refine x_callVl C (As := [.ref (ad 1), .ref (ad 60), vI x2]) (rest := []) 98 (xw_at (N := 129) (i := 98) (by decide) rfl) vc_X2 (s_lives l D cy ad G V77 J65 R65 hI77 hJ65 hR65 1 (Or.inl rfl) x2 ⟨by omega, by omega⟩) (l1 := []) (l2 := []) (List.append_nil _).symm (w2 := fun u : xS => XW cy ad u.1 u.2.1 u.2.2) (fun _ => List.append_nil _) rfl wm_yX2_lives wn_X2 wl_X11_228 wi_yX2_lives we_yX2_lives hd_yX2_lives rfl ⟨Nat.le_of_ble_eq_true rfl, Nat.le_of_ble_eq_true rfl⟩ (Nat.le_of_ble_eq_true rfl) ⟨Nat.le_of_ble_eq_true rfl, Nat.le_of_ble_eq_true rfl⟩ dX11_few_67 (fun z78 u78 bz78 h78 => ?_)
        obtain ⟨V78, J78, R78⟩ := u78
        obtain ⟨hS78, hBc78, hEc78, hFc78⟩ := h78
        replace hF := calSX_i hF hFc78 hBc78
        have hB78 := hB77.tr hBc78 (fun i k h => (h.elim (fun h => (Or.inl h)) (fun h => (h.elim (fun h => (Or.inr (Or.inl h))) (fun h => (Or.inr (Or.inr (h))))))))
        have hE78 : RK R78 Rr := RK.tr hE65 hEc78
        obtain ⟨hI78, hJ78, hR78⟩ := hS78
        dsimp only at hI78 hJ78 hR78 ⊢
        refine x_lstore C.1 (lv' := [(6, vJ z78), (5, vI z64), (0, .ref (ad 0)), (1, vI x1), (2, vI x2), (3, vI x3), (4, vI x4)]) dX11_few_70 (by decide) rfl ?_
        refine x_lload C.1 dX11_few_72 0 rfl ?_
        refine x_iload C.1 dX11_few_74 6 rfl ?_
        refine x_i2l C.1 dX11_few_76 (by omega) ?_
        refine x_aload_n C.1 dX11_few_77 2 rfl ?_
        refine x_getA C (N := 129) (i := 0) (by decide) rfl vc_X11 wx_X11 6 (by decide) wf_X11_41 (a := 98) rfl dX11_few_78 ?_
        obtain ⟨z79, ez79, bz79⟩ := hJ78.rd 98 16
        replace hF := hF.to (rdb_e (z := z79) ez79)
        refine x_getJ C (N := 129) (i := 98) (by decide) rfl vc_X2 wx_X2 16 (by decide) wf_X11_207 rfl dX11_few_81 (a := z79) ez79 ?_
        refine x_ldc2 C.1 (n := 10) wq_X11_241 dX11_few_84 ?_
        obtain ⟨z80, hz80, bz80⟩ : ∃ z : Int, jDiv z79 10 = z ∧ R64 z := ⟨_, rfl, xj_r _⟩
        replace hF := hF.to (rdb_e (z := z80) hz80)
        refine x_ldiv C.1 (v := z80) hz80 dX11_few_87 (by decide) (by omega) ?_
        refine x_lmul C.1 rfl dX11_few_88 ?_
        refine x_wrapJg ?_
        intro z81 bz81 ew81
        replace hF := hF.to (rdb_e (z := z81) ew81.symm)
        refine x_lcmp C.1 rfl dX11_few_89 (by omega) (by omega) ?_
        have bz82 := lcI_r2 z78 z81
        refine x_if_lt C.1 (tgt := 96) dX11_few_90 (by decide) (by omega) (fun hc83 => ?_) (fun hc83 => ?_)
        · replace hF := hF.to (if_pos hc83)
          rw [lcI_lt] at hc83
          refine x_iinc C.1 (v := z64 + 1) (lv' := [(5, vI (z64 + 1)), (6, vJ z78), (0, .ref (ad 0)), (1, vI x1), (2, vI x2), (3, vI x3), (4, vI x4)]) (by omega) dX11_few_96 1 rfl (by decide) rfl ?_
          refine x_goto C.1 (tgt := 26) dX11_few_99 (by decide) ?_
          refine x_lv [(5, vI (z64 + 1)), (0, .ref (ad 0)), (1, vI x1), (2, vI x2), (3, vI x3), (4, vI x4)] [0, 2, 3, 4, 5, 6] rfl ?_
          have hmu65 : (5 - (z64 + 1)).toNat < (5 - z64).toNat := (by omega)
          exact ih65 (z64 + 1, V78, J78, R78) ⟨⟨by omega, by omega⟩, hI78, hB78, hJ78, hR78, hE78, ⟨nf65, Nat.lt_of_lt_of_le hmu65 (Nat.le_of_lt_succ hn65), hF⟩⟩ hmu65
        · replace hF := hF.to (if_neg hc83)
          rw [lcI_lt] at hc83
          refine x_iload C.1 dX11_few_93 1 rfl ?_
          exact x_iret (S := xS) (post := (fun a (u : xS) => XS G u ∧ FB (fun i k : Nat => (98 ≤ i ∧ i ≤ 104) ∨ (70 ≤ i ∧ i ≤ 70) ∨ (69 ≤ i ∧ i ≤ 71)) V u.1 ∧ RK u.2.2 Rr ∧ (f_s_few x1 x2 x3 x4 V J Rr) (a, u))) (w1 := (fun u : xS => XW cy ad u.1 u.2.1 u.2.2)) (a := z64) C hr rfl dX11_few_95 (by omega) (V78, J78, R78) rfl ⟨⟨hI78, hJ78, hR78⟩, hB78, hE78, hF _ rfl⟩
    · replace hF := hF.to (if_neg (fun hh => hh hc5))
      refine x_iconst C.1 (n := -1) dX11_few_21 ?_
      exact x_iret (S := xS) (post := (fun a (u : xS) => XS G u ∧ FB (fun i k : Nat => (98 ≤ i ∧ i ≤ 104) ∨ (70 ≤ i ∧ i ≤ 70) ∨ (69 ≤ i ∧ i ≤ 71)) V u.1 ∧ RK u.2.2 Rr ∧ (f_s_few x1 x2 x3 x4 V J Rr) (a, u))) (w1 := (fun u : xS => XW cy ad u.1 u.2.1 u.2.2)) (a := (-1)) C hr rfl dX11_few_22 (by decide) (V, J, Rr) rfl ⟨⟨hI, hJ, hR⟩, hB, (RK.rf _), hF _ rfl⟩
theorem dX11_pot_0 : decode cX11_pot 0 = .ok (.aload_n 0, 1) := by decide +kernel
theorem dX11_pot_1 : decode cX11_pot 1 = .ok (.iload_n 1, 1) := by decide +kernel
theorem dX11_pot_2 : decode cX11_pot 2 = .ok (.iload_n 2, 1) := by decide +kernel
theorem dX11_pot_3 : decode cX11_pot 3 = .ok (.iload_n 3, 1) := by decide +kernel
theorem dX11_pot_4 : decode cX11_pot 4 = .ok (.invokevirtual 198, 3) := by decide +kernel
theorem dX11_pot_7 : decode cX11_pot 7 = .ok (.ifCond .eq 14, 3) := by decide +kernel
theorem dX11_pot_10 : decode cX11_pot 10 = .ok (.iload 4, 2) := by decide +kernel
theorem dX11_pot_12 : decode cX11_pot 12 = .ok (.iconst 4, 1) := by decide +kernel
theorem dX11_pot_13 : decode cX11_pot 13 = .ok (.bipush 24, 2) := by decide +kernel
theorem dX11_pot_15 : decode cX11_pot 15 = .ok (.invokestatic 74, 3) := by decide +kernel
theorem dX11_pot_18 : decode cX11_pot 18 = .ok (.ifCond .ne 7, 3) := by decide +kernel
theorem dX11_pot_21 : decode cX11_pot 21 = .ok (.ldc2_w 243, 3) := by decide +kernel
theorem dX11_pot_24 : decode cX11_pot 24 = .ok (.lreturn, 1) := by decide +kernel
theorem dX11_pot_25 : decode cX11_pot 25 = .ok (.aload_n 0, 1) := by decide +kernel
theorem dX11_pot_26 : decode cX11_pot 26 = .ok (.iload_n 1, 1) := by decide +kernel
theorem dX11_pot_27 : decode cX11_pot 27 = .ok (.iload_n 2, 1) := by decide +kernel
theorem dX11_pot_28 : decode cX11_pot 28 = .ok (.iload_n 3, 1) := by decide +kernel
theorem dX11_pot_29 : decode cX11_pot 29 = .ok (.invokevirtual 203, 3) := by decide +kernel
theorem dX11_pot_32 : decode cX11_pot 32 = .ok (.lstore 5, 2) := by decide +kernel
theorem dX11_pot_34 : decode cX11_pot 34 = .ok (.aload_n 0, 1) := by decide +kernel
theorem dX11_pot_35 : decode cX11_pot 35 = .ok (.getfield 41, 3) := by decide +kernel
theorem dX11_pot_38 : decode cX11_pot 38 = .ok (.iload 4, 2) := by decide +kernel
theorem dX11_pot_40 : decode cX11_pot 40 = .ok (.putfield 245, 3) := by decide +kernel
theorem dX11_pot_43 : decode cX11_pot 43 = .ok (.aload_n 0, 1) := by decide +kernel
theorem dX11_pot_44 : decode cX11_pot 44 = .ok (.getfield 41, 3) := by decide +kernel
theorem dX11_pot_47 : decode cX11_pot 47 = .ok (.aload_n 0, 1) := by decide +kernel
theorem dX11_pot_48 : decode cX11_pot 48 = .ok (.getfield 10, 3) := by decide +kernel
theorem dX11_pot_51 : decode cX11_pot 51 = .ok (.aload_n 0, 1) := by decide +kernel
theorem dX11_pot_52 : decode cX11_pot 52 = .ok (.getfield 34, 3) := by decide +kernel
theorem dX11_pot_55 : decode cX11_pot 55 = .ok (.iload_n 2, 1) := by decide +kernel
theorem dX11_pot_56 : decode cX11_pot 56 = .ok (.invokevirtual 228, 3) := by decide +kernel
theorem dX11_pot_59 : decode cX11_pot 59 = .ok (.lload 5, 2) := by decide +kernel
theorem dX11_pot_61 : decode cX11_pot 61 = .ok (.lsub, 1) := by decide +kernel
theorem dX11_pot_62 : decode cX11_pot 62 = .ok (.lreturn, 1) := by decide +kernel
set_option maxRecDepth 100000 in
def f_s_pot (x1 : Int) (x2 : Int) (x3 : Int) (x4 : Int) (V : Nat → Nat → Int) (J : Nat → Nat → Int) (Rr : Nat → Nat → Nat) : (Int × xS) → Prop :=
  calR (f_s_canReckon x1 x2 x3 V J Rr) fun z1 => fct (0 ≤ z1 ∧ z1 ≤ 1) <| (if z1 = 0 then rtn ((-1000000000000), (V, J, Rr)) else calR (f_s_isWithin x4 4 24) fun z4 => fct (0 ≤ z4 ∧ z4 ≤ 1) <| (if ¬ z4 = 0 then calSX (fun i k : Nat => (98 ≤ i ∧ i ≤ 104) ∨ (70 ≤ i ∧ i ≤ 70) ∨ (69 ≤ i ∧ i ≤ 71)) V (f_s_livesAsItIs x1 x2 x3 V J Rr) fun z7 V7 J7 R7 => rdb (up2 V7 98 10 x4) fun V8 => calSX (fun i k : Nat => (98 ≤ i ∧ i ≤ 104) ∨ (70 ≤ i ∧ i ≤ 70) ∨ (69 ≤ i ∧ i ≤ 71)) V8 (f_s_lives 1 x2 V8 J7 R7) fun z9 V9 J9 R9 => rdb (wrJ (z9 - z7)) fun z10 => rtn (z10, (V9, J9, R9)) else rtn ((-1000000000000), (V, J, Rr))))
set_option maxHeartbeats 8000000 in
set_option maxRecDepth 100000 in
theorem s_pot (l : Launch) (D : va_G) (cy : Nat → ClassId) (ad : Nat → Nat) (G : Nat → Nat → Int) (V J : Nat → Nat → Int) (Rr : Nat → Nat → Nat) (hI : XI G V) (hJ : VJ J) (hR : XR Rr) (x1 : Int) (bx1 : -2147483648 ≤ x1 ∧ x1 ≤ 2147483647) (x2 : Int) (bx2 : -2147483648 ≤ x2 ∧ x2 ≤ 2147483647) (x3 : Int) (bx3 : -2147483648 ≤ x3 ∧ x3 ≤ 2147483647) (x4 : Int) (bx4 : -2147483648 ≤ x4 ∧ x4 ≤ 2147483647) : xMl l D (xTY cy) yX11_pot cX11_pot 7 (some .long) 7 178 0 0 [.ref (ad 0), vI x1, vI x2, vI x3, vI x4] (XW cy ad V J Rr) (fun u : xS => XW cy ad u.1 u.2.1 u.2.2) (fun a (u : xS) => XS G u ∧ FB (fun i k : Nat => (98 ≤ i ∧ i ≤ 104) ∨ (70 ≤ i ∧ i ≤ 70) ∨ (69 ≤ i ∧ i ≤ 71)) V u.1 ∧ RK u.2.2 Rr ∧ (f_s_pot x1 x2 x3 x4 V J Rr) (a, u)) := by
  refine xMl.mk (lv0 := [(0, .ref (ad 0)), (1, vI x1), (2, vI x2), (3, vI x3), (4, vI x4)]) (by decide) rfl (Nat.le_of_ble_eq_true rfl) (fun p e s m below meth c A C hr hnm hAe => ?_)
  have C : xC2 p s m _ meth c D A s.heap 7 cX11_pot RX11 (xTY cy) := C
  have hB : FB (fun i k : Nat => (98 ≤ i ∧ i ≤ 104) ∨ (70 ≤ i ∧ i ≤ 70) ∨ (69 ≤ i ∧ i ≤ 71)) V V := FB.rf _ _
  have hF := Imp.of_eq (f_s_pot.eq_def x1 x2 x3 x4 V J Rr)
  refine x_aload_n C.1 dX11_pot_0 0 rfl ?_
  refine x_iload_n C.1 dX11_pot_1 1 rfl ?_
  refine x_iload_n C.1 dX11_pot_2 2 rfl ?_
  refine x_iload_n C.1 dX11_pot_3 3 rfl ?_
  refine x_callVi C (As := [vI x1, vI x2, vI x3]) (rest := []) 0 (xw_at (N := 129) (i := 0) (by decide) rfl) vc_X11 (s_canReckon l D cy ad G V J Rr hI hJ hR x1 ⟨by omega, by omega⟩ x2 ⟨by omega, by omega⟩ x3 ⟨by omega, by omega⟩) (l1 := []) (l2 := []) (List.append_nil _).symm (w2 := fun _ => XW cy ad V J Rr) (fun _ => List.append_nil _) rfl wm_yX11_canReckon wn_X11 wl_X11_198 wi_yX11_canReckon we_yX11_canReckon hd_yX11_canReckon rfl ⟨Nat.le_of_ble_eq_true rfl, Nat.le_of_ble_eq_true rfl⟩ (Nat.le_of_ble_eq_true rfl) ⟨Nat.le_of_ble_eq_true rfl, Nat.le_of_ble_eq_true rfl⟩ dX11_pot_4 (fun z1 u1 bz1 h1 => ?_)
  obtain ⟨hon1, hFc1⟩ := h1
  replace hF := calR_i hF hFc1
  replace hF := hF.fc hon1.r
  have bq1 := Sp.r hon1
  refine x_if_eq C.1 (tgt := 21) dX11_pot_7 (by decide) (by omega) (fun hc2 => ?_) (fun hc2 => ?_)
  · replace hF := hF.to (if_pos hc2)
    refine x_ldc2 C.1 (n := -1000000000000) wq_X11_243 dX11_pot_21 ?_
    exact x_lret (S := xS) (post := (fun a (u : xS) => XS G u ∧ FB (fun i k : Nat => (98 ≤ i ∧ i ≤ 104) ∨ (70 ≤ i ∧ i ≤ 70) ∨ (69 ≤ i ∧ i ≤ 71)) V u.1 ∧ RK u.2.2 Rr ∧ (f_s_pot x1 x2 x3 x4 V J Rr) (a, u))) (w1 := (fun u : xS => XW cy ad u.1 u.2.1 u.2.2)) (a := (-1000000000000)) C hr rfl dX11_pot_24 (by decide) (V, J, Rr) rfl ⟨⟨hI, hJ, hR⟩, hB, (RK.rf _), hF _ rfl⟩
  · replace hF := hF.to (if_neg hc2)
    have hon3 := Sp.on hon1 (by omega)
    refine x_iload C.1 dX11_pot_10 4 rfl ?_
    refine x_iconst C.1 (n := 4) dX11_pot_12 ?_
    refine x_bipush C.1 (n := 24) dX11_pot_13 ?_
    refine x_callSi C (As := [vI x4, vI 4, vI 24]) (rest := []) (s_isWithin l D cy x4 ⟨by omega, by omega⟩ 4 ⟨by decide, by decide⟩ 24 ⟨by decide, by decide⟩) (l1 := []) (l2 := _) rfl (w2 := fun _ => _) (fun _ => rfl) rfl wm_yX11_isWithin wn_X11 wl_X11_74 wi_yX11_isWithin hd_yX11_isWithin rfl ⟨Nat.le_of_ble_eq_true rfl, Nat.le_of_ble_eq_true rfl⟩ (Nat.le_of_ble_eq_true rfl) ⟨Nat.le_of_ble_eq_true rfl, Nat.le_of_ble_eq_true rfl⟩ dX11_pot_15 (fun z4 u4 bz4 h4 => ?_)
    obtain ⟨bq4, hx4_0, hFc4⟩ := h4
    replace hF := calR_i hF hFc4
    replace hF := hF.fc bq4
    refine x_if_ne C.1 (tgt := 25) dX11_pot_18 (by decide) (by omega) (fun hc5 => ?_) (fun hc5 => ?_)
    · replace hF := hF.to (if_pos hc5)
      have hon6 := Sq.on hx4_0 (by omega)
      refine x_aload_n C.1 dX11_pot_25 0 rfl ?_
      refine x_iload_n C.1 dX11_pot_26 1 rfl ?_
      refine x_iload_n C.1 dX11_pot_27 2 rfl ?_
      refine x_iload_n C.1 dX11_pot_28 3 rfl ?_
      refine x_callVl C (As := [vI x1, vI x2, vI x3]) (rest := []) 0 (xw_at (N := 129) (i := 0) (by decide) rfl) vc_X11 (s_livesAsItIs l D cy ad G V J Rr hI hJ hR x1 ⟨by omega, by omega⟩ x2 ⟨by omega, by omega⟩ x3 ⟨by omega, by omega⟩) (l1 := []) (l2 := []) (List.append_nil _).symm (w2 := fun u : xS => XW cy ad u.1 u.2.1 u.2.2) (fun _ => List.append_nil _) rfl wm_yX11_livesAsItIs wn_X11 wl_X11_203 wi_yX11_livesAsItIs we_yX11_livesAsItIs hd_yX11_livesAsItIs rfl ⟨Nat.le_of_ble_eq_true rfl, Nat.le_of_ble_eq_true rfl⟩ (Nat.le_of_ble_eq_true rfl) ⟨Nat.le_of_ble_eq_true rfl, Nat.le_of_ble_eq_true rfl⟩ dX11_pot_29 (fun z7 u7 bz7 h7 => ?_)
      obtain ⟨V7, J7, R7⟩ := u7
      obtain ⟨hS7, hBc7, hEc7, hFc7⟩ := h7
      replace hF := calSX_i hF hFc7 hBc7
      have hB7 := hB.tr hBc7 (fun i k h => (h.elim (fun h => (Or.inl h)) (fun h => (h.elim (fun h => (Or.inr (Or.inl h))) (fun h => (Or.inr (Or.inr (h))))))))
      have hE7 : RK R7 Rr := RK.tr (RK.rf _) hEc7
      obtain ⟨hI7, hJ7, hR7⟩ := hS7
      dsimp only at hI7 hJ7 hR7 ⊢
      refine x_lstore C.1 (lv' := [(5, vJ z7), (0, .ref (ad 0)), (1, vI x1), (2, vI x2), (3, vI x3), (4, vI x4)]) dX11_pot_32 (by decide) rfl ?_
      refine x_aload_n C.1 dX11_pot_34 1 rfl ?_
      refine x_getA C (N := 129) (i := 0) (by decide) rfl vc_X11 wx_X11 6 (by decide) wf_X11_41 (a := 98) rfl dX11_pot_35 ?_
      refine x_iload C.1 dX11_pot_38 5 rfl ?_
      refine x_putI C (N := 129) (i := 98) (by decide) rfl vc_X2 wx_X2 10 (by decide) wf_X11_245 tyX2 tyX2_ok nmX2 rfl (tyX2_ok 10 (by decide)) rfl dX11_pot_40 rfl rfl ?_
      refine x_gV ?_
      intro V8 hV8
      have hI8 : XI G V8 := hI7.up hV8 rfl (by omega) rfl
      have hB8 := hB7.up hV8 (Or.inl (⟨by decide, by decide⟩))
      replace hF := hF.to (rdb_e (z := V8) hV8.symm)
      refine x_aload_n C.1 dX11_pot_43 1 rfl ?_
      refine x_getA C (N := 129) (i := 0) (by decide) rfl vc_X11 wx_X11 6 (by decide) wf_X11_41 (a := 98) rfl dX11_pot_44 ?_
      refine x_aload_n C.1 dX11_pot_47 1 rfl ?_
      refine x_getA C (N := 129) (i := 0) (by decide) rfl vc_X11 wx_X11 0 (by decide) wf_X11_10 (a := 1) rfl dX11_pot_48 ?_
      refine x_aload_n C.1 dX11_pot_51 1 rfl ?_
      refine x_getA C (N := 129) (i := 0) (by decide) rfl vc_X11 wx_X11 5 (by decide) wf_X11_34 (a := 60) rfl dX11_pot_52 ?_
      refine x_iload_n C.1 dX11_pot_55 3 rfl ?_
      refine x_callVl C (As := [.ref (ad 1), .ref (ad 60), vI x2]) (rest := []) 98 (xw_at (N := 129) (i := 98) (by decide) rfl) vc_X2 (s_lives l D cy ad G V8 J7 R7 hI8 hJ7 hR7 1 (Or.inl rfl) x2 ⟨by omega, by omega⟩) (l1 := []) (l2 := []) (List.append_nil _).symm (w2 := fun u : xS => XW cy ad u.1 u.2.1 u.2.2) (fun _ => List.append_nil _) rfl wm_yX2_lives wn_X2 wl_X11_228 wi_yX2_lives we_yX2_lives hd_yX2_lives rfl ⟨Nat.le_of_ble_eq_true rfl, Nat.le_of_ble_eq_true rfl⟩ (Nat.le_of_ble_eq_true rfl) ⟨Nat.le_of_ble_eq_true rfl, Nat.le_of_ble_eq_true rfl⟩ dX11_pot_56 (fun z9 u9 bz9 h9 => ?_)
      obtain ⟨V9, J9, R9⟩ := u9
      obtain ⟨hS9, hBc9, hEc9, hFc9⟩ := h9
      replace hF := calSX_i hF hFc9 hBc9
      have hB9 := hB8.tr hBc9 (fun i k h => (h.elim (fun h => (Or.inl h)) (fun h => (h.elim (fun h => (Or.inr (Or.inl h))) (fun h => (Or.inr (Or.inr (h))))))))
      have hE9 : RK R9 Rr := RK.tr hE7 hEc9
      obtain ⟨hI9, hJ9, hR9⟩ := hS9
      dsimp only at hI9 hJ9 hR9 ⊢
      refine x_lload C.1 dX11_pot_59 0 rfl ?_
      refine x_lsub C.1 (v := z9 - z7) (by omega) dX11_pot_61 ?_
      refine x_wrapJg ?_
      intro z10 bz10 ew10
      replace hF := hF.to (rdb_e (z := z10) ew10.symm)
      exact x_lret (S := xS) (post := (fun a (u : xS) => XS G u ∧ FB (fun i k : Nat => (98 ≤ i ∧ i ≤ 104) ∨ (70 ≤ i ∧ i ≤ 70) ∨ (69 ≤ i ∧ i ≤ 71)) V u.1 ∧ RK u.2.2 Rr ∧ (f_s_pot x1 x2 x3 x4 V J Rr) (a, u))) (w1 := (fun u : xS => XW cy ad u.1 u.2.1 u.2.2)) (a := z10) C hr rfl dX11_pot_62 (by omega) (V9, J9, R9) rfl ⟨⟨hI9, hJ9, hR9⟩, hB9, hE9, hF _ rfl⟩
    · replace hF := hF.to (if_neg (fun hh => hh hc5))
      refine x_ldc2 C.1 (n := -1000000000000) wq_X11_243 dX11_pot_21 ?_
      exact x_lret (S := xS) (post := (fun a (u : xS) => XS G u ∧ FB (fun i k : Nat => (98 ≤ i ∧ i ≤ 104) ∨ (70 ≤ i ∧ i ≤ 70) ∨ (69 ≤ i ∧ i ≤ 71)) V u.1 ∧ RK u.2.2 Rr ∧ (f_s_pot x1 x2 x3 x4 V J Rr) (a, u))) (w1 := (fun u : xS => XW cy ad u.1 u.2.1 u.2.2)) (a := (-1000000000000)) C hr rfl dX11_pot_24 (by decide) (V, J, Rr) rfl ⟨⟨hI, hJ, hR⟩, hB, (RK.rf _), hF _ rfl⟩
theorem hd_yX2_giveBelow : yX2_giveBelow.cls ≠ "java/lang/invoke/MethodHandle" ∧ yX2_giveBelow.cls ≠ "java/lang/invoke/VarHandle" ∧ (parseMethodDescriptor yX2_giveBelow.desc).map (fun d => d.parameters.length) = some 2 := by decide +kernel
theorem dX11_ruleFor_0 : decode cX11_ruleFor 0 = .ok (.aload_n 0, 1) := by decide +kernel
theorem dX11_ruleFor_1 : decode cX11_ruleFor 1 = .ok (.iload_n 1, 1) := by decide +kernel
theorem dX11_ruleFor_2 : decode cX11_ruleFor 2 = .ok (.iload_n 2, 1) := by decide +kernel
theorem dX11_ruleFor_3 : decode cX11_ruleFor 3 = .ok (.iload_n 3, 1) := by decide +kernel
theorem dX11_ruleFor_4 : decode cX11_ruleFor 4 = .ok (.invokevirtual 198, 3) := by decide +kernel
theorem dX11_ruleFor_7 : decode cX11_ruleFor 7 = .ok (.ifCond .eq 24, 3) := by decide +kernel
theorem dX11_ruleFor_10 : decode cX11_ruleFor 10 = .ok (.iload 4, 2) := by decide +kernel
theorem dX11_ruleFor_12 : decode cX11_ruleFor 12 = .ok (.iconst 1, 1) := by decide +kernel
theorem dX11_ruleFor_13 : decode cX11_ruleFor 13 = .ok (.bipush 9, 2) := by decide +kernel
theorem dX11_ruleFor_15 : decode cX11_ruleFor 15 = .ok (.invokestatic 74, 3) := by decide +kernel
theorem dX11_ruleFor_18 : decode cX11_ruleFor 18 = .ok (.ifCond .eq 13, 3) := by decide +kernel
theorem dX11_ruleFor_21 : decode cX11_ruleFor 21 = .ok (.iload 5, 2) := by decide +kernel
theorem dX11_ruleFor_23 : decode cX11_ruleFor 23 = .ok (.iconst 0, 1) := by decide +kernel
theorem dX11_ruleFor_24 : decode cX11_ruleFor 24 = .ok (.iconst 1, 1) := by decide +kernel
theorem dX11_ruleFor_25 : decode cX11_ruleFor 25 = .ok (.invokestatic 74, 3) := by decide +kernel
theorem dX11_ruleFor_28 : decode cX11_ruleFor 28 = .ok (.ifCond .ne 7, 3) := by decide +kernel
theorem dX11_ruleFor_31 : decode cX11_ruleFor 31 = .ok (.ldc2_w 201, 3) := by decide +kernel
theorem dX11_ruleFor_34 : decode cX11_ruleFor 34 = .ok (.lreturn, 1) := by decide +kernel
theorem dX11_ruleFor_35 : decode cX11_ruleFor 35 = .ok (.iconst (-1), 1) := by decide +kernel
theorem dX11_ruleFor_36 : decode cX11_ruleFor 36 = .ok (.istore 6, 2) := by decide +kernel
theorem dX11_ruleFor_38 : decode cX11_ruleFor 38 = .ok (.ldc2_w 201, 3) := by decide +kernel
theorem dX11_ruleFor_41 : decode cX11_ruleFor 41 = .ok (.lstore 7, 2) := by decide +kernel
theorem dX11_ruleFor_43 : decode cX11_ruleFor 43 = .ok (.aload_n 0, 1) := by decide +kernel
theorem dX11_ruleFor_44 : decode cX11_ruleFor 44 = .ok (.getfield 41, 3) := by decide +kernel
theorem dX11_ruleFor_47 : decode cX11_ruleFor 47 = .ok (.aload_n 0, 1) := by decide +kernel
theorem dX11_ruleFor_48 : decode cX11_ruleFor 48 = .ok (.getfield 10, 3) := by decide +kernel
theorem dX11_ruleFor_51 : decode cX11_ruleFor 51 = .ok (.iload_n 1, 1) := by decide +kernel
theorem dX11_ruleFor_52 : decode cX11_ruleFor 52 = .ok (.iload_n 3, 1) := by decide +kernel
theorem dX11_ruleFor_53 : decode cX11_ruleFor 53 = .ok (.invokevirtual 215, 3) := by decide +kernel
theorem dX11_ruleFor_56 : decode cX11_ruleFor 56 = .ok (.iconst 0, 1) := by decide +kernel
theorem dX11_ruleFor_57 : decode cX11_ruleFor 57 = .ok (.istore 9, 2) := by decide +kernel
theorem dX11_ruleFor_59 : decode cX11_ruleFor 59 = .ok (.iload 9, 2) := by decide +kernel
theorem dX11_ruleFor_61 : decode cX11_ruleFor 61 = .ok (.bipush 24, 2) := by decide +kernel
theorem dX11_ruleFor_63 : decode cX11_ruleFor 63 = .ok (.if_icmp .gt 54, 3) := by decide +kernel
theorem dX11_ruleFor_66 : decode cX11_ruleFor 66 = .ok (.aload_n 0, 1) := by decide +kernel
theorem dX11_ruleFor_67 : decode cX11_ruleFor 67 = .ok (.getfield 41, 3) := by decide +kernel
theorem dX11_ruleFor_70 : decode cX11_ruleFor 70 = .ok (.iload 9, 2) := by decide +kernel
theorem dX11_ruleFor_72 : decode cX11_ruleFor 72 = .ok (.iload 4, 2) := by decide +kernel
theorem dX11_ruleFor_74 : decode cX11_ruleFor 74 = .ok (.invokevirtual 246, 3) := by decide +kernel
theorem dX11_ruleFor_77 : decode cX11_ruleFor 77 = .ok (.aload_n 0, 1) := by decide +kernel
theorem dX11_ruleFor_78 : decode cX11_ruleFor 78 = .ok (.getfield 41, 3) := by decide +kernel
theorem dX11_ruleFor_81 : decode cX11_ruleFor 81 = .ok (.aload_n 0, 1) := by decide +kernel
theorem dX11_ruleFor_82 : decode cX11_ruleFor 82 = .ok (.getfield 10, 3) := by decide +kernel
theorem dX11_ruleFor_85 : decode cX11_ruleFor 85 = .ok (.aload_n 0, 1) := by decide +kernel
theorem dX11_ruleFor_86 : decode cX11_ruleFor 86 = .ok (.getfield 34, 3) := by decide +kernel
theorem dX11_ruleFor_89 : decode cX11_ruleFor 89 = .ok (.iload_n 2, 1) := by decide +kernel
theorem dX11_ruleFor_90 : decode cX11_ruleFor 90 = .ok (.invokevirtual 228, 3) := by decide +kernel
theorem dX11_ruleFor_93 : decode cX11_ruleFor 93 = .ok (.lstore 10, 2) := by decide +kernel
theorem dX11_ruleFor_95 : decode cX11_ruleFor 95 = .ok (.lload 10, 2) := by decide +kernel
theorem dX11_ruleFor_97 : decode cX11_ruleFor 97 = .ok (.lload 7, 2) := by decide +kernel
theorem dX11_ruleFor_99 : decode cX11_ruleFor 99 = .ok (.lcmp, 1) := by decide +kernel
theorem dX11_ruleFor_100 : decode cX11_ruleFor 100 = .ok (.ifCond .le 11, 3) := by decide +kernel
theorem dX11_ruleFor_103 : decode cX11_ruleFor 103 = .ok (.lload 10, 2) := by decide +kernel
theorem dX11_ruleFor_105 : decode cX11_ruleFor 105 = .ok (.lstore 7, 2) := by decide +kernel
theorem dX11_ruleFor_107 : decode cX11_ruleFor 107 = .ok (.iload 9, 2) := by decide +kernel
theorem dX11_ruleFor_109 : decode cX11_ruleFor 109 = .ok (.istore 6, 2) := by decide +kernel
theorem dX11_ruleFor_111 : decode cX11_ruleFor 111 = .ok (.iinc 9 1, 3) := by decide +kernel
theorem dX11_ruleFor_114 : decode cX11_ruleFor 114 = .ok (.goto (-55), 3) := by decide +kernel
theorem dX11_ruleFor_117 : decode cX11_ruleFor 117 = .ok (.iload 5, 2) := by decide +kernel
theorem dX11_ruleFor_119 : decode cX11_ruleFor 119 = .ok (.ifCond .ne 9, 3) := by decide +kernel
theorem dX11_ruleFor_122 : decode cX11_ruleFor 122 = .ok (.iload 6, 2) := by decide +kernel
theorem dX11_ruleFor_124 : decode cX11_ruleFor 124 = .ok (.i2l, 1) := by decide +kernel
theorem dX11_ruleFor_125 : decode cX11_ruleFor 125 = .ok (.goto 5, 3) := by decide +kernel
theorem dX11_ruleFor_128 : decode cX11_ruleFor 128 = .ok (.lload 7, 2) := by decide +kernel
theorem dX11_ruleFor_130 : decode cX11_ruleFor 130 = .ok (.lreturn, 1) := by decide +kernel
set_option maxRecDepth 100000 in
def f_s_ruleFor (x1 : Int) (x2 : Int) (x3 : Int) (x4 : Int) (x5 : Int) (V : Nat → Nat → Int) (J : Nat → Nat → Int) (Rr : Nat → Nat → Nat) : (Int × xS) → Prop :=
  calR (f_s_canReckon x1 x2 x3 V J Rr) fun z1 => fct (0 ≤ z1 ∧ z1 ≤ 1) <| (if z1 = 0 then rtn ((-1), (V, J, Rr)) else calR (f_s_isWithin x4 1 9) fun z4 => fct (0 ≤ z4 ∧ z4 ≤ 1) <| (if z4 = 0 then rtn ((-1), (V, J, Rr)) else calR (f_s_isWithin x5 0 1) fun z7 => fct (0 ≤ z7 ∧ z7 ≤ 1) <| (if ¬ z7 = 0 then calUX (fun i k : Nat => (98 ≤ i ∧ i ≤ 104)) V (f_s_take 1 x1 x3 V J Rr) fun V10 => lop6 (27) (fun rc89 (z86 : Int) (z87 : Int) (z88 : Int) (V89 : Nat → Nat → Int) (J89 : Nat → Nat → Int) (R89 : Nat → Nat → Nat) => (if 24 < z86 then (if ¬ x5 = 0 then rtn (z87, (V89, J89, R89)) else rtn (z88, (V89, J89, R89))) else calUX (fun i k : Nat => (98 ≤ i ∧ i ≤ 104)) V89 (f_s_giveBelow z86 x4 V89 J89 R89) fun V115 => calSX (fun i k : Nat => (98 ≤ i ∧ i ≤ 104) ∨ (70 ≤ i ∧ i ≤ 70) ∨ (69 ≤ i ∧ i ≤ 71)) V115 (f_s_lives 1 x2 V115 J89 R89) fun z116 V116 J116 R116 => jnk (fun (z118 : Int) (z119 : Int) => rc89 (z86 + 1) z118 z119 V116 J116 R116) fun jf120 => (if (lcI z116 z87) ≤ 0 then jf120 z87 z88 else jf120 z116 z86))) 0 ((-1)) ((-1)) V10 J Rr else rtn ((-1), (V, J, Rr)))))
set_option maxHeartbeats 8000000 in
set_option maxRecDepth 100000 in
theorem s_ruleFor (l : Launch) (D : va_G) (cy : Nat → ClassId) (ad : Nat → Nat) (G : Nat → Nat → Int) (V J : Nat → Nat → Int) (Rr : Nat → Nat → Nat) (hI : XI G V) (hJ : VJ J) (hR : XR Rr) (x1 : Int) (bx1 : -2147483648 ≤ x1 ∧ x1 ≤ 2147483647) (x2 : Int) (bx2 : -2147483648 ≤ x2 ∧ x2 ≤ 2147483647) (x3 : Int) (bx3 : -2147483648 ≤ x3 ∧ x3 ≤ 2147483647) (x4 : Int) (bx4 : -2147483648 ≤ x4 ∧ x4 ≤ 2147483647) (x5 : Int) (bx5 : -2147483648 ≤ x5 ∧ x5 ≤ 2147483647) : xMl l D (xTY cy) yX11_ruleFor cX11_ruleFor 12 (some .long) 6 155 0 0 [.ref (ad 0), vI x1, vI x2, vI x3, vI x4, vI x5] (XW cy ad V J Rr) (fun u : xS => XW cy ad u.1 u.2.1 u.2.2) (fun a (u : xS) => XS G u ∧ FB (fun i k : Nat => (98 ≤ i ∧ i ≤ 104) ∨ (70 ≤ i ∧ i ≤ 70) ∨ (69 ≤ i ∧ i ≤ 71)) V u.1 ∧ RK u.2.2 Rr ∧ (f_s_ruleFor x1 x2 x3 x4 x5 V J Rr) (a, u)) := by
  refine xMl.mk (lv0 := [(0, .ref (ad 0)), (1, vI x1), (2, vI x2), (3, vI x3), (4, vI x4), (5, vI x5)]) (by decide) rfl (Nat.le_of_ble_eq_true rfl) (fun p e s m below meth c A C hr hnm hAe => ?_)
  have C : xC2 p s m _ meth c D A s.heap 12 cX11_ruleFor RX11 (xTY cy) := C
  have hB : FB (fun i k : Nat => (98 ≤ i ∧ i ≤ 104) ∨ (70 ≤ i ∧ i ≤ 70) ∨ (69 ≤ i ∧ i ≤ 71)) V V := FB.rf _ _
  have hF := Imp.of_eq (f_s_ruleFor.eq_def x1 x2 x3 x4 x5 V J Rr)
  refine x_aload_n C.1 dX11_ruleFor_0 0 rfl ?_
  refine x_iload_n C.1 dX11_ruleFor_1 1 rfl ?_
  refine x_iload_n C.1 dX11_ruleFor_2 2 rfl ?_
  refine x_iload_n C.1 dX11_ruleFor_3 3 rfl ?_
  refine x_callVi C (As := [vI x1, vI x2, vI x3]) (rest := []) 0 (xw_at (N := 129) (i := 0) (by decide) rfl) vc_X11 (s_canReckon l D cy ad G V J Rr hI hJ hR x1 ⟨by omega, by omega⟩ x2 ⟨by omega, by omega⟩ x3 ⟨by omega, by omega⟩) (l1 := []) (l2 := []) (List.append_nil _).symm (w2 := fun _ => XW cy ad V J Rr) (fun _ => List.append_nil _) rfl wm_yX11_canReckon wn_X11 wl_X11_198 wi_yX11_canReckon we_yX11_canReckon hd_yX11_canReckon rfl ⟨Nat.le_of_ble_eq_true rfl, Nat.le_of_ble_eq_true rfl⟩ (Nat.le_of_ble_eq_true rfl) ⟨Nat.le_of_ble_eq_true rfl, Nat.le_of_ble_eq_true rfl⟩ dX11_ruleFor_4 (fun z1 u1 bz1 h1 => ?_)
  obtain ⟨hon1, hFc1⟩ := h1
  replace hF := calR_i hF hFc1
  replace hF := hF.fc hon1.r
  have bq1 := Sp.r hon1
  refine x_if_eq C.1 (tgt := 31) dX11_ruleFor_7 (by decide) (by omega) (fun hc2 => ?_) (fun hc2 => ?_)
  · replace hF := hF.to (if_pos hc2)
    refine x_ldc2 C.1 (n := -1) wq_X11_201 dX11_ruleFor_31 ?_
    exact x_lret (S := xS) (post := (fun a (u : xS) => XS G u ∧ FB (fun i k : Nat => (98 ≤ i ∧ i ≤ 104) ∨ (70 ≤ i ∧ i ≤ 70) ∨ (69 ≤ i ∧ i ≤ 71)) V u.1 ∧ RK u.2.2 Rr ∧ (f_s_ruleFor x1 x2 x3 x4 x5 V J Rr) (a, u))) (w1 := (fun u : xS => XW cy ad u.1 u.2.1 u.2.2)) (a := (-1)) C hr rfl dX11_ruleFor_34 (by decide) (V, J, Rr) rfl ⟨⟨hI, hJ, hR⟩, hB, (RK.rf _), hF _ rfl⟩
  · replace hF := hF.to (if_neg hc2)
    have hon3 := Sp.on hon1 (by omega)
    refine x_iload C.1 dX11_ruleFor_10 4 rfl ?_
    refine x_iconst C.1 (n := 1) dX11_ruleFor_12 ?_
    refine x_bipush C.1 (n := 9) dX11_ruleFor_13 ?_
    refine x_callSi C (As := [vI x4, vI 1, vI 9]) (rest := []) (s_isWithin l D cy x4 ⟨by omega, by omega⟩ 1 ⟨by decide, by decide⟩ 9 ⟨by decide, by decide⟩) (l1 := []) (l2 := _) rfl (w2 := fun _ => _) (fun _ => rfl) rfl wm_yX11_isWithin wn_X11 wl_X11_74 wi_yX11_isWithin hd_yX11_isWithin rfl ⟨Nat.le_of_ble_eq_true rfl, Nat.le_of_ble_eq_true rfl⟩ (Nat.le_of_ble_eq_true rfl) ⟨Nat.le_of_ble_eq_true rfl, Nat.le_of_ble_eq_true rfl⟩ dX11_ruleFor_15 (fun z4 u4 bz4 h4 => ?_)
    obtain ⟨bq4, hx4_0, hFc4⟩ := h4
    replace hF := calR_i hF hFc4
    replace hF := hF.fc bq4
    refine x_if_eq C.1 (tgt := 31) dX11_ruleFor_18 (by decide) (by omega) (fun hc5 => ?_) (fun hc5 => ?_)
    · replace hF := hF.to (if_pos hc5)
      refine x_ldc2 C.1 (n := -1) wq_X11_201 dX11_ruleFor_31 ?_
      exact x_lret (S := xS) (post := (fun a (u : xS) => XS G u ∧ FB (fun i k : Nat => (98 ≤ i ∧ i ≤ 104) ∨ (70 ≤ i ∧ i ≤ 70) ∨ (69 ≤ i ∧ i ≤ 71)) V u.1 ∧ RK u.2.2 Rr ∧ (f_s_ruleFor x1 x2 x3 x4 x5 V J Rr) (a, u))) (w1 := (fun u : xS => XW cy ad u.1 u.2.1 u.2.2)) (a := (-1)) C hr rfl dX11_ruleFor_34 (by decide) (V, J, Rr) rfl ⟨⟨hI, hJ, hR⟩, hB, (RK.rf _), hF _ rfl⟩
    · replace hF := hF.to (if_neg hc5)
      have hon6 := Sq.on hx4_0 (by omega)
      refine x_iload C.1 dX11_ruleFor_21 5 rfl ?_
      refine x_iconst C.1 (n := 0) dX11_ruleFor_23 ?_
      refine x_iconst C.1 (n := 1) dX11_ruleFor_24 ?_
      refine x_callSi C (As := [vI x5, vI 0, vI 1]) (rest := []) (s_isWithin l D cy x5 ⟨by omega, by omega⟩ 0 ⟨by decide, by decide⟩ 1 ⟨by decide, by decide⟩) (l1 := []) (l2 := _) rfl (w2 := fun _ => _) (fun _ => rfl) rfl wm_yX11_isWithin wn_X11 wl_X11_74 wi_yX11_isWithin hd_yX11_isWithin rfl ⟨Nat.le_of_ble_eq_true rfl, Nat.le_of_ble_eq_true rfl⟩ (Nat.le_of_ble_eq_true rfl) ⟨Nat.le_of_ble_eq_true rfl, Nat.le_of_ble_eq_true rfl⟩ dX11_ruleFor_25 (fun z7 u7 bz7 h7 => ?_)
      obtain ⟨bq7, hx7_0, hFc7⟩ := h7
      replace hF := calR_i hF hFc7
      replace hF := hF.fc bq7
      refine x_if_ne C.1 (tgt := 35) dX11_ruleFor_28 (by decide) (by omega) (fun hc8 => ?_) (fun hc8 => ?_)
      · replace hF := hF.to (if_pos hc8)
        have hon9 := Sq.on hx7_0 (by omega)
        refine x_iconst C.1 (n := -1) dX11_ruleFor_35 ?_
        refine x_istore C.1 (lv' := [(6, vI (-1)), (0, .ref (ad 0)), (1, vI x1), (2, vI x2), (3, vI x3), (4, vI x4), (5, vI x5)]) dX11_ruleFor_36 (by decide) rfl ?_
        refine x_ldc2 C.1 (n := -1) wq_X11_201 dX11_ruleFor_38 ?_
        refine x_lstore C.1 (lv' := [(7, vJ (-1)), (6, vI (-1)), (0, .ref (ad 0)), (1, vI x1), (2, vI x2), (3, vI x3), (4, vI x4), (5, vI x5)]) dX11_ruleFor_41 (by decide) rfl ?_
        refine x_aload_n C.1 dX11_ruleFor_43 2 rfl ?_
        refine x_getA C (N := 129) (i := 0) (by decide) rfl vc_X11 wx_X11 6 (by decide) wf_X11_41 (a := 98) rfl dX11_ruleFor_44 ?_
        refine x_aload_n C.1 dX11_ruleFor_47 2 rfl ?_
        refine x_getA C (N := 129) (i := 0) (by decide) rfl vc_X11 wx_X11 0 (by decide) wf_X11_10 (a := 1) rfl dX11_ruleFor_48 ?_
        refine x_iload_n C.1 dX11_ruleFor_51 3 rfl ?_
        refine x_iload_n C.1 dX11_ruleFor_52 5 rfl ?_
        refine x_callVv C (As := [.ref (ad 1), vI x1, vI x3]) (rest := []) 98 (xw_at (N := 129) (i := 98) (by decide) rfl) vc_X2 (s_take l D cy ad G V J Rr hI hJ hR 1 (Or.inl rfl) x1 ⟨by omega, by omega⟩ x3 ⟨by omega, by omega⟩) (l1 := []) (l2 := []) (List.append_nil _).symm (w2 := fun u : Nat → Nat → Int => XW cy ad u J Rr) (fun _ => List.append_nil _) rfl wm_yX2_take wn_X2 wl_X11_215 wi_yX2_take we_yX2_take hd_yX2_take rfl ⟨Nat.le_of_ble_eq_true rfl, Nat.le_of_ble_eq_true rfl⟩ (Nat.le_of_ble_eq_true rfl) ⟨Nat.le_of_ble_eq_true rfl, Nat.le_of_ble_eq_true rfl⟩ dX11_ruleFor_53 (fun V10 h10 => ?_)
        obtain ⟨hI10, hBc10, hFc10⟩ := h10
        replace hF := calUX_i hF hFc10 hBc10
        have hB10 := hB.tr hBc10 (fun i k h => (Or.inl h))
        refine x_iconst C.1 (n := 0) dX11_ruleFor_56 ?_
        refine x_istore C.1 (lv' := [(9, vI 0), (7, vJ (-1)), (6, vI (-1)), (0, .ref (ad 0)), (1, vI x1), (2, vI x2), (3, vI x3), (4, vI x4), (5, vI x5)]) dX11_ruleFor_57 (by decide) rfl ?_
        obtain ⟨bd89, hbd89, hF⟩ := lop6_ex hF
        refine x_loop (I := fun x : Int × Int × Int × (Nat → Nat → Int) × (Nat → Nat → Int) × (Nat → Nat → Nat) => match x with | (z86, z87, z88, V89, J89, R89) => (0 ≤ z86 ∧ z86 ≤ 25) ∧ (-1 ≤ z87 ∧ z87 ≤ 9223372036854775807) ∧ (-1 ≤ z88 ∧ z88 ≤ 2147483647) ∧ XI G V89 ∧ FB (fun i k : Nat => (98 ≤ i ∧ i ≤ 104) ∨ (70 ≤ i ∧ i ≤ 70) ∨ (69 ≤ i ∧ i ≤ 71)) V V89 ∧ VJ J89 ∧ XR R89 ∧ RK R89 Rr ∧ (∃ nf : Nat, (26 - z86).toNat < nf ∧ Imp (lop6 nf bd89 z86 z87 z88 V89 J89 R89) (f_s_ruleFor x1 x2 x3 x4 x5 V J Rr))) (μ := fun x : Int × Int × Int × (Nat → Nat → Int) × (Nat → Nat → Int) × (Nat → Nat → Nat) => match x with | (z86, z87, z88, V89, J89, R89) => (26 - z86).toNat) (wsf := fun x : Int × Int × Int × (Nat → Nat → Int) × (Nat → Nat → Int) × (Nat → Nat → Nat) => match x with | (z86, z87, z88, V89, J89, R89) => XW cy ad V89 J89 R89) (lvf := fun x : Int × Int × Int × (Nat → Nat → Int) × (Nat → Nat → Int) × (Nat → Nat → Nat) => match x with | (z86, z87, z88, V89, J89, R89) => [(9, vI z86), (7, vJ z87), (6, vI z88), (0, .ref (ad 0)), (1, vI x1), (2, vI x2), (3, vI x3), (4, vI x4), (5, vI x5)]) (fun x hI89x ih89 => ?_) (0, (-1), (-1), V10, J, Rr) ⟨⟨by decide, by decide⟩, ⟨by decide, by decide⟩, ⟨by decide, by decide⟩, hI10, hB10, hJ, hR, (RK.rf _), ⟨_, (by omega), hF⟩⟩ rfl rfl
        obtain ⟨z86, z87, z88, V89, J89, R89⟩ := x
        obtain ⟨bz86, bz87, bz88, hI89, hB89, hJ89, hR89, hE89, nf89, hn89, hF⟩ := hI89x
        try dsimp only
        obtain ⟨nf89, rfl⟩ : ∃ mm, nf89 = mm + 1 := ⟨nf89 - 1, (Nat.succ_pred_eq_of_pos (Nat.lt_of_le_of_lt (Nat.zero_le _) hn89)).symm⟩
        replace hF := hF.to (lop6_s hbd89)
        refine x_iload C.1 dX11_ruleFor_59 0 rfl ?_
        refine x_bipush C.1 (n := 24) dX11_ruleFor_61 ?_
        refine x_icmp_gt C.1 (tgt := 117) dX11_ruleFor_63 (by decide) (by omega) (by decide) (fun hc113 => ?_) (fun hc113 => ?_)
        · replace hF := hF.to (if_pos hc113)
          refine x_iload C.1 dX11_ruleFor_117 8 rfl ?_
          refine x_if_ne C.1 (tgt := 128) dX11_ruleFor_119 (by decide) (by omega) (fun hc114 => ?_) (fun hc114 => ?_)
          · replace hF := hF.to (if_pos hc114)
            refine x_lload C.1 dX11_ruleFor_128 1 rfl ?_
            exact x_lret (S := xS) (post := (fun a (u : xS) => XS G u ∧ FB (fun i k : Nat => (98 ≤ i ∧ i ≤ 104) ∨ (70 ≤ i ∧ i ≤ 70) ∨ (69 ≤ i ∧ i ≤ 71)) V u.1 ∧ RK u.2.2 Rr ∧ (f_s_ruleFor x1 x2 x3 x4 x5 V J Rr) (a, u))) (w1 := (fun u : xS => XW cy ad u.1 u.2.1 u.2.2)) (a := z87) C hr rfl dX11_ruleFor_130 (by omega) (V89, J89, R89) rfl ⟨⟨hI89, hJ89, hR89⟩, hB89, hE89, hF _ rfl⟩
          · replace hF := hF.to (if_neg (fun hh => hh hc114))
            refine x_iload C.1 dX11_ruleFor_122 2 rfl ?_
            refine x_i2l C.1 dX11_ruleFor_124 (by omega) ?_
            refine x_goto C.1 (tgt := 130) dX11_ruleFor_125 (by decide) ?_
            exact x_lret (S := xS) (post := (fun a (u : xS) => XS G u ∧ FB (fun i k : Nat => (98 ≤ i ∧ i ≤ 104) ∨ (70 ≤ i ∧ i ≤ 70) ∨ (69 ≤ i ∧ i ≤ 71)) V u.1 ∧ RK u.2.2 Rr ∧ (f_s_ruleFor x1 x2 x3 x4 x5 V J Rr) (a, u))) (w1 := (fun u : xS => XW cy ad u.1 u.2.1 u.2.2)) (a := z88) C hr rfl dX11_ruleFor_130 (by omega) (V89, J89, R89) rfl ⟨⟨hI89, hJ89, hR89⟩, hB89, hE89, hF _ rfl⟩
        · replace hF := hF.to (if_neg hc113)
          refine x_aload_n C.1 dX11_ruleFor_66 3 rfl ?_
          refine x_getA C (N := 129) (i := 0) (by decide) rfl vc_X11 wx_X11 6 (by decide) wf_X11_41 (a := 98) rfl dX11_ruleFor_67 ?_
          refine x_iload C.1 dX11_ruleFor_70 0 rfl ?_
          refine x_iload C.1 dX11_ruleFor_72 7 rfl ?_
          refine x_callVv C (As := [vI z86, vI x4]) (rest := []) 98 (xw_at (N := 129) (i := 98) (by decide) rfl) vc_X2 (s_giveBelow l D cy ad G V89 J89 R89 hI89 hJ89 hR89 z86 ⟨by omega, by omega⟩ x4 ⟨by omega, by omega⟩) (l1 := []) (l2 := []) (List.append_nil _).symm (w2 := fun u : Nat → Nat → Int => XW cy ad u J89 R89) (fun _ => List.append_nil _) rfl wm_yX2_giveBelow wn_X2 wl_X11_246 wi_yX2_giveBelow we_yX2_giveBelow hd_yX2_giveBelow rfl ⟨Nat.le_of_ble_eq_true rfl, Nat.le_of_ble_eq_true rfl⟩ (Nat.le_of_ble_eq_true rfl) ⟨Nat.le_of_ble_eq_true rfl, Nat.le_of_ble_eq_true rfl⟩ dX11_ruleFor_74 (fun V115 h115 => ?_)
          obtain ⟨hI115, hBc115, hFc115⟩ := h115
          replace hF := calUX_i hF hFc115 hBc115
          have hB115 := hB89.tr hBc115 (fun i k h => (Or.inl h))
          refine x_aload_n C.1 dX11_ruleFor_77 3 rfl ?_
          refine x_getA C (N := 129) (i := 0) (by decide) rfl vc_X11 wx_X11 6 (by decide) wf_X11_41 (a := 98) rfl dX11_ruleFor_78 ?_
          refine x_aload_n C.1 dX11_ruleFor_81 3 rfl ?_
          refine x_getA C (N := 129) (i := 0) (by decide) rfl vc_X11 wx_X11 0 (by decide) wf_X11_10 (a := 1) rfl dX11_ruleFor_82 ?_
          refine x_aload_n C.1 dX11_ruleFor_85 3 rfl ?_
          refine x_getA C (N := 129) (i := 0) (by decide) rfl vc_X11 wx_X11 5 (by decide) wf_X11_34 (a := 60) rfl dX11_ruleFor_86 ?_
          refine x_iload_n C.1 dX11_ruleFor_89 5 rfl ?_
          refine x_callVl C (As := [.ref (ad 1), .ref (ad 60), vI x2]) (rest := []) 98 (xw_at (N := 129) (i := 98) (by decide) rfl) vc_X2 (s_lives l D cy ad G V115 J89 R89 hI115 hJ89 hR89 1 (Or.inl rfl) x2 ⟨by omega, by omega⟩) (l1 := []) (l2 := []) (List.append_nil _).symm (w2 := fun u : xS => XW cy ad u.1 u.2.1 u.2.2) (fun _ => List.append_nil _) rfl wm_yX2_lives wn_X2 wl_X11_228 wi_yX2_lives we_yX2_lives hd_yX2_lives rfl ⟨Nat.le_of_ble_eq_true rfl, Nat.le_of_ble_eq_true rfl⟩ (Nat.le_of_ble_eq_true rfl) ⟨Nat.le_of_ble_eq_true rfl, Nat.le_of_ble_eq_true rfl⟩ dX11_ruleFor_90 (fun z116 u116 bz116 h116 => ?_)
          obtain ⟨V116, J116, R116⟩ := u116
          obtain ⟨hS116, hBc116, hEc116, hFc116⟩ := h116
          replace hF := calSX_i hF hFc116 hBc116
          have hB116 := hB115.tr hBc116 (fun i k h => (h.elim (fun h => (Or.inl h)) (fun h => (h.elim (fun h => (Or.inr (Or.inl h))) (fun h => (Or.inr (Or.inr (h))))))))
          have hE116 : RK R116 Rr := RK.tr hE89 hEc116
          obtain ⟨hI116, hJ116, hR116⟩ := hS116
          dsimp only at hI116 hJ116 hR116 ⊢
          refine x_lstore C.1 (lv' := [(10, vJ z116), (9, vI z86), (7, vJ z87), (6, vI z88), (0, .ref (ad 0)), (1, vI x1), (2, vI x2), (3, vI x3), (4, vI x4), (5, vI x5)]) dX11_ruleFor_93 (by decide) rfl ?_
          refine x_lload C.1 dX11_ruleFor_95 0 rfl ?_
          refine x_lload C.1 dX11_ruleFor_97 2 rfl ?_
          refine x_lcmp C.1 rfl dX11_ruleFor_99 (by omega) (by omega) ?_
          have bz117 := lcI_r2 z116 z87
          obtain ⟨jf120, hjf120, hF⟩ := jn_ex hF
          refine x_join (I := fun x : Int × Int => match x with | (z118, z119) => (-1 ≤ z118 ∧ z118 ≤ 9223372036854775807) ∧ (-1 ≤ z119 ∧ z119 ≤ 2147483647) ∧ Imp (jf120 z118 z119) (f_s_ruleFor x1 x2 x3 x4 x5 V J Rr)) (wsf := fun x : Int × Int => match x with | (z118, z119) => XW cy ad V116 J116 R116) (lvf := fun x : Int × Int => match x with | (z118, z119) => [(10, vJ z116), (9, vI z86), (7, vJ z118), (6, vI z119), (0, .ref (ad 0)), (1, vI x1), (2, vI x2), (3, vI x3), (4, vI x4), (5, vI x5)]) (stf := fun x : Int × Int => match x with | (z118, z119) => []) 111 (fun x hI120x => ?_) (fun jn120 => ?_)
          · obtain ⟨z118, z119⟩ := x
            obtain ⟨bz118, bz119, hF⟩ := hI120x
            try dsimp only
            replace hF := hF.to (jn_s2 hjf120)
            refine x_iinc C.1 (v := z86 + 1) (lv' := [(9, vI (z86 + 1)), (10, vJ z116), (7, vJ z118), (6, vI z119), (0, .ref (ad 0)), (1, vI x1), (2, vI x2), (3, vI x3), (4, vI x4), (5, vI x5)]) (by omega) dX11_ruleFor_111 1 rfl (by decide) rfl ?_
            refine x_goto C.1 (tgt := 59) dX11_ruleFor_114 (by decide) ?_
            refine x_lv [(9, vI (z86 + 1)), (7, vJ z118), (6, vI z119), (0, .ref (ad 0)), (1, vI x1), (2, vI x2), (3, vI x3), (4, vI x4), (5, vI x5)] [0, 2, 3, 4, 5, 6, 7, 8, 9] rfl ?_
            have hmu89 : (26 - (z86 + 1)).toNat < (26 - z86).toNat := (by omega)
            exact ih89 (z86 + 1, z118, z119, V116, J116, R116) ⟨⟨by omega, by omega⟩, ⟨by omega, by omega⟩, ⟨by omega, by omega⟩, hI116, hB116, hJ116, hR116, hE116, ⟨nf89, Nat.lt_of_lt_of_le hmu89 (Nat.le_of_lt_succ hn89), hF⟩⟩ hmu89
          · refine x_if_le C.1 (tgt := 111) dX11_ruleFor_100 (by decide) (by omega) (fun hc121 => ?_) (fun hc121 => ?_)
            · replace hF := hF.to (if_pos hc121)
              rw [lcI_le] at hc121
              exact jn120 (z87, z88) ⟨⟨by omega, by omega⟩, ⟨by omega, by omega⟩, hF⟩
            · replace hF := hF.to (if_neg hc121)
              rw [lcI_le] at hc121
              refine x_lload C.1 dX11_ruleFor_103 0 rfl ?_
              refine x_lstore C.1 (lv' := [(7, vJ z116), (10, vJ z116), (9, vI z86), (6, vI z88), (0, .ref (ad 0)), (1, vI x1), (2, vI x2), (3, vI x3), (4, vI x4), (5, vI x5)]) dX11_ruleFor_105 (by decide) rfl ?_
              refine x_iload C.1 dX11_ruleFor_107 2 rfl ?_
              refine x_istore C.1 (lv' := [(6, vI z86), (7, vJ z116), (10, vJ z116), (9, vI z86), (0, .ref (ad 0)), (1, vI x1), (2, vI x2), (3, vI x3), (4, vI x4), (5, vI x5)]) dX11_ruleFor_109 (by decide) rfl ?_
              refine x_lv [(10, vJ z116), (9, vI z86), (7, vJ z116), (6, vI z86), (0, .ref (ad 0)), (1, vI x1), (2, vI x2), (3, vI x3), (4, vI x4), (5, vI x5)] [2, 3, 1, 0, 4, 5, 6, 7, 8, 9] rfl ?_
              exact jn120 (z116, z86) ⟨⟨by omega, by omega⟩, ⟨by omega, by omega⟩, hF⟩
      · replace hF := hF.to (if_neg (fun hh => hh hc8))
        refine x_ldc2 C.1 (n := -1) wq_X11_201 dX11_ruleFor_31 ?_
        exact x_lret (S := xS) (post := (fun a (u : xS) => XS G u ∧ FB (fun i k : Nat => (98 ≤ i ∧ i ≤ 104) ∨ (70 ≤ i ∧ i ≤ 70) ∨ (69 ≤ i ∧ i ≤ 71)) V u.1 ∧ RK u.2.2 Rr ∧ (f_s_ruleFor x1 x2 x3 x4 x5 V J Rr) (a, u))) (w1 := (fun u : xS => XW cy ad u.1 u.2.1 u.2.2)) (a := (-1)) C hr rfl dX11_ruleFor_34 (by decide) (V, J, Rr) rfl ⟨⟨hI, hJ, hR⟩, hB, (RK.rf _), hF _ rfl⟩
