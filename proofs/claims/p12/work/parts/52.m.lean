theorem hd_yX12_drownedIn : yX12_drownedIn.cls ≠ "java/lang/invoke/MethodHandle" ∧ yX12_drownedIn.cls ≠ "java/lang/invoke/VarHandle" ∧ (parseMethodDescriptor yX12_drownedIn.desc).map (fun d => d.parameters.length) = some 1 := by decide +kernel
theorem hd_yX12_dryIn : yX12_dryIn.cls ≠ "java/lang/invoke/MethodHandle" ∧ yX12_dryIn.cls ≠ "java/lang/invoke/VarHandle" ∧ (parseMethodDescriptor yX12_dryIn.desc).map (fun d => d.parameters.length) = some 1 := by decide +kernel
theorem dX12_feelsState_0 : decode cX12_feelsState 0 = .ok (.aload_n 0, 1) := by decide +kernel
theorem dX12_feelsState_1 : decode cX12_feelsState 1 = .ok (.aload_n 0, 1) := by decide +kernel
theorem dX12_feelsState_2 : decode cX12_feelsState 2 = .ok (.getfield 298, 3) := by decide +kernel
theorem dX12_feelsState_5 : decode cX12_feelsState 5 = .ok (.invokevirtual 253, 3) := by decide +kernel
theorem dX12_feelsState_8 : decode cX12_feelsState 8 = .ok (.aload_n 0, 1) := by decide +kernel
theorem dX12_feelsState_9 : decode cX12_feelsState 9 = .ok (.getfield 62, 3) := by decide +kernel
theorem dX12_feelsState_12 : decode cX12_feelsState 12 = .ok (.iconst 4, 1) := by decide +kernel
theorem dX12_feelsState_13 : decode cX12_feelsState 13 = .ok (.iload_n 2, 1) := by decide +kernel
theorem dX12_feelsState_14 : decode cX12_feelsState 14 = .ok (.iastore, 1) := by decide +kernel
theorem dX12_feelsState_15 : decode cX12_feelsState 15 = .ok (.aload_n 0, 1) := by decide +kernel
theorem dX12_feelsState_16 : decode cX12_feelsState 16 = .ok (.getfield 62, 3) := by decide +kernel
theorem dX12_feelsState_19 : decode cX12_feelsState 19 = .ok (.iconst 5, 1) := by decide +kernel
theorem dX12_feelsState_20 : decode cX12_feelsState 20 = .ok (.aload_n 0, 1) := by decide +kernel
theorem dX12_feelsState_21 : decode cX12_feelsState 21 = .ok (.getfield 301, 3) := by decide +kernel
theorem dX12_feelsState_24 : decode cX12_feelsState 24 = .ok (.iastore, 1) := by decide +kernel
theorem dX12_feelsState_25 : decode cX12_feelsState 25 = .ok (.aload_n 0, 1) := by decide +kernel
theorem dX12_feelsState_26 : decode cX12_feelsState 26 = .ok (.getfield 62, 3) := by decide +kernel
theorem dX12_feelsState_29 : decode cX12_feelsState 29 = .ok (.bipush 6, 2) := by decide +kernel
theorem dX12_feelsState_31 : decode cX12_feelsState 31 = .ok (.iload_n 1, 1) := by decide +kernel
theorem dX12_feelsState_32 : decode cX12_feelsState 32 = .ok (.invokestatic 304, 3) := by decide +kernel
theorem dX12_feelsState_35 : decode cX12_feelsState 35 = .ok (.iastore, 1) := by decide +kernel
theorem dX12_feelsState_36 : decode cX12_feelsState 36 = .ok (.aload_n 0, 1) := by decide +kernel
theorem dX12_feelsState_37 : decode cX12_feelsState 37 = .ok (.getfield 62, 3) := by decide +kernel
theorem dX12_feelsState_40 : decode cX12_feelsState 40 = .ok (.bipush 7, 2) := by decide +kernel
theorem dX12_feelsState_42 : decode cX12_feelsState 42 = .ok (.iload_n 1, 1) := by decide +kernel
theorem dX12_feelsState_43 : decode cX12_feelsState 43 = .ok (.invokestatic 307, 3) := by decide +kernel
theorem dX12_feelsState_46 : decode cX12_feelsState 46 = .ok (.iastore, 1) := by decide +kernel
theorem dX12_feelsState_47 : decode cX12_feelsState 47 = .ok (.aload_n 0, 1) := by decide +kernel
theorem dX12_feelsState_48 : decode cX12_feelsState 48 = .ok (.getfield 62, 3) := by decide +kernel
theorem dX12_feelsState_51 : decode cX12_feelsState 51 = .ok (.bipush 11, 2) := by decide +kernel
theorem dX12_feelsState_53 : decode cX12_feelsState 53 = .ok (.bipush 99, 2) := by decide +kernel
theorem dX12_feelsState_55 : decode cX12_feelsState 55 = .ok (.iastore, 1) := by decide +kernel
theorem dX12_feelsState_56 : decode cX12_feelsState 56 = .ok (.return_, 1) := by decide +kernel
set_option maxRecDepth 100000 in
def f_m_feelsState (x1 : Int) (x2 : Int) (V : Nat → Nat → Int) (J : Nat → Nat → Int) (Rr : Nat → Nat → Nat) : (Nat → Nat → Int) → Prop :=
  rdb (V 0 33) fun z1 => fct (0 ≤ z1 ∧ z1 ≤ 3) <| calUM 4835703278458516698824704 V (f_m_feelsPlant z1 V J Rr) fun V2 => rdb (up2 V2 18 4 x2) fun V3 => rdb (V3 0 34) fun z4 => rdb (up2 V3 18 5 z4) fun V5 => calR (f_m_dryIn x1) fun z6 => fct (0 ≤ z6 ∧ z6 ≤ 9) <| rdb (up2 V5 18 6 z6) fun V7 => calR (f_m_drownedIn x1) fun z8 => fct (0 ≤ z8 ∧ z8 ≤ 9) <| rdb (up2 V7 18 7 z8) fun V9 => rdb (up2 V9 18 11 99) fun V10 => rtn V10
set_option maxHeartbeats 8000000 in
set_option maxRecDepth 100000 in
theorem m_feelsState (l : Launch) (D : va_G) (cy : Nat → ClassId) (ad : Nat → Nat) (G : Nat → Nat → Int) (V J : Nat → Nat → Int) (Rr : Nat → Nat → Nat) {K : Nat → Nat → Int} (hI : AI K G V) (hJ : VJ J) (hR : MR Rr) (x1 : Int) (bx1 : 0 ≤ x1 ∧ x1 ≤ 499) (x2 : Int) (bx2 : -2147483648 ≤ x2 ∧ x2 ≤ 2147483647) : xMv l D (xTY cy) yX12_feelsState cX12_feelsState 3 none 3 64 0 0 [.ref (ad 0), vI x1, vI x2] (MW cy ad V J Rr) (fun u : Nat → Nat → Int => MW cy ad u J Rr) (fun u : Nat → Nat → Int => AI K G u ∧ FBm 4835703278458516698824704 V u ∧ (f_m_feelsState x1 x2 V J Rr) u) := by
  refine xMv.mk (lv0 := [(0, .ref (ad 0)), (1, vI x1), (2, vI x2)]) (by decide) rfl (Nat.le_of_ble_eq_true rfl) (fun p e s m below meth c A C hr hnm hAe => ?_)
  have C : xC2 p s m _ meth c D A s.heap 3 cX12_feelsState RX12 (xTY cy) := C
  have hB : FBm 4835703278458516698824704 V V := FBm.rf _ _
  have hF := Imp.of_eq (f_m_feelsState.eq_def x1 x2 V J Rr)
  refine x_aload_n C.1 dX12_feelsState_0 0 rfl ?_
  refine x_aload_n C.1 dX12_feelsState_1 0 rfl ?_
  obtain ⟨z1, ez1, bz1⟩ := hI.rd 0 33 (x := 0) (y := 3) rfl
  replace hF := hF.to (rdb_e (z := z1) ez1)
  replace hF := hF.fc bz1
  refine x_getI C (N := 33) (i := 0) (by decide) rfl vc_X12 wx_X12 33 (by decide) wf_X12_298 rfl dX12_feelsState_2 (a := z1) ez1 ?_
  refine x_callVv C (As := [vI z1]) (rest := []) 0 (xw_at (N := 33) (i := 0) (by decide) rfl) vc_X12 (m_feelsPlant l D cy ad G V J Rr (KI.self hI.1) hJ hR z1 ⟨by omega, by omega⟩) (l1 := []) (l2 := []) (List.append_nil _).symm (w2 := fun u : Nat → Nat → Int => MW cy ad u J Rr) (fun _ => List.append_nil _) rfl wm_yX12_feelsPlant wn_X12 wl_X12_253 wi_yX12_feelsPlant we_yX12_feelsPlant hd_yX12_feelsPlant rfl ⟨Nat.le_of_ble_eq_true rfl, Nat.le_of_ble_eq_true rfl⟩ (Nat.le_of_ble_eq_true rfl) ⟨Nat.le_of_ble_eq_true rfl, Nat.le_of_ble_eq_true rfl⟩ dX12_feelsState_5 (fun V2 h2 => ?_)
  obtain ⟨hI2, hBc2, hFc2⟩ := h2
  replace hF := calUM_i hF hFc2 hBc2
  have hB2 := hB.tr hBc2 (m := 4835703278458516698824704) rfl
  have hI2c : AI K G V2 := KI.back hI2 hI sub_AA
  refine x_aload_n C.1 dX12_feelsState_8 0 rfl ?_
  refine x_getA C (N := 33) (i := 0) (by decide) rfl vc_X12 wx_X12 26 (by decide) wf_X12_62 (a := 18) rfl dX12_feelsState_9 ?_
  refine x_iconst C.1 (n := 4) dX12_feelsState_12 ?_
  refine x_iload_n C.1 dX12_feelsState_13 2 rfl ?_
  refine x_iast C (N := 33) (i := 18) (q := 4) (a := x2) (by decide) rfl (by decide) (by decide) dX12_feelsState_14 ?_
  rw [show (4 : Int).toNat = 4 from rfl]
  refine x_gV ?_
  intro V3 hV3
  have hI3 : AI K G V3 := hI2c.up hV3 rfl (by omega) rfl (Or.inl (by decide))
  have hB3 := hB2.up hV3 (by rw [mkey_r (by decide)]; rfl)
  replace hF := hF.to (rdb_e (z := V3) hV3.symm)
  refine x_aload_n C.1 dX12_feelsState_15 0 rfl ?_
  refine x_getA C (N := 33) (i := 0) (by decide) rfl vc_X12 wx_X12 26 (by decide) wf_X12_62 (a := 18) rfl dX12_feelsState_16 ?_
  refine x_iconst C.1 (n := 5) dX12_feelsState_19 ?_
  refine x_aload_n C.1 dX12_feelsState_20 0 rfl ?_
  obtain ⟨z4, ez4, bz4⟩ := hI3.rd 0 34 (x := -2147483648) (y := 2147483647) rfl
  replace hF := hF.to (rdb_e (z := z4) ez4)
  refine x_getI C (N := 33) (i := 0) (by decide) rfl vc_X12 wx_X12 34 (by decide) wf_X12_301 rfl dX12_feelsState_21 (a := z4) ez4 ?_
  refine x_iast C (N := 33) (i := 18) (q := 5) (a := z4) (by decide) rfl (by decide) (by decide) dX12_feelsState_24 ?_
  rw [show (5 : Int).toNat = 5 from rfl]
  refine x_gV ?_
  intro V5 hV5
  have hI5 : AI K G V5 := hI3.up hV5 rfl (by omega) rfl (Or.inl (by decide))
  have hB5 := hB3.up hV5 (by rw [mkey_r (by decide)]; rfl)
  replace hF := hF.to (rdb_e (z := V5) hV5.symm)
  refine x_aload_n C.1 dX12_feelsState_25 0 rfl ?_
  refine x_getA C (N := 33) (i := 0) (by decide) rfl vc_X12 wx_X12 26 (by decide) wf_X12_62 (a := 18) rfl dX12_feelsState_26 ?_
  refine x_bipush C.1 (n := 6) dX12_feelsState_29 ?_
  refine x_iload_n C.1 dX12_feelsState_31 1 rfl ?_
  refine x_callSi C (As := [vI x1]) (rest := [vI 6, .ref (ad 18)]) (m_dryIn l D cy x1 ⟨by omega, by omega⟩) (l1 := []) (l2 := _) rfl (w2 := fun _ => _) (fun _ => rfl) rfl wm_yX12_dryIn wn_X12 wl_X12_304 wi_yX12_dryIn hd_yX12_dryIn rfl ⟨Nat.le_of_ble_eq_true rfl, Nat.le_of_ble_eq_true rfl⟩ (Nat.le_of_ble_eq_true rfl) ⟨Nat.le_of_ble_eq_true rfl, Nat.le_of_ble_eq_true rfl⟩ dX12_feelsState_32 (fun z6 u6 bz6 h6 => ?_)
  obtain ⟨bq6, hFc6⟩ := h6
  replace hF := calR_i hF hFc6
  replace hF := hF.fc bq6
  refine x_iast C (N := 33) (i := 18) (q := 6) (a := z6) (by decide) rfl (by decide) (by decide) dX12_feelsState_35 ?_
  rw [show (6 : Int).toNat = 6 from rfl]
  refine x_gV ?_
  intro V7 hV7
  have hI7 : AI K G V7 := hI5.up hV7 rfl (by omega) rfl (Or.inl (by decide))
  have hB7 := hB5.up hV7 (by rw [mkey_r (by decide)]; rfl)
  replace hF := hF.to (rdb_e (z := V7) hV7.symm)
  refine x_aload_n C.1 dX12_feelsState_36 0 rfl ?_
  refine x_getA C (N := 33) (i := 0) (by decide) rfl vc_X12 wx_X12 26 (by decide) wf_X12_62 (a := 18) rfl dX12_feelsState_37 ?_
  refine x_bipush C.1 (n := 7) dX12_feelsState_40 ?_
  refine x_iload_n C.1 dX12_feelsState_42 1 rfl ?_
  refine x_callSi C (As := [vI x1]) (rest := [vI 7, .ref (ad 18)]) (m_drownedIn l D cy x1 ⟨by omega, by omega⟩) (l1 := []) (l2 := _) rfl (w2 := fun _ => _) (fun _ => rfl) rfl wm_yX12_drownedIn wn_X12 wl_X12_307 wi_yX12_drownedIn hd_yX12_drownedIn rfl ⟨Nat.le_of_ble_eq_true rfl, Nat.le_of_ble_eq_true rfl⟩ (Nat.le_of_ble_eq_true rfl) ⟨Nat.le_of_ble_eq_true rfl, Nat.le_of_ble_eq_true rfl⟩ dX12_feelsState_43 (fun z8 u8 bz8 h8 => ?_)
  obtain ⟨bq8, hFc8⟩ := h8
  replace hF := calR_i hF hFc8
  replace hF := hF.fc bq8
  refine x_iast C (N := 33) (i := 18) (q := 7) (a := z8) (by decide) rfl (by decide) (by decide) dX12_feelsState_46 ?_
  rw [show (7 : Int).toNat = 7 from rfl]
  refine x_gV ?_
  intro V9 hV9
  have hI9 : AI K G V9 := hI7.up hV9 rfl (by omega) rfl (Or.inl (by decide))
  have hB9 := hB7.up hV9 (by rw [mkey_r (by decide)]; rfl)
  replace hF := hF.to (rdb_e (z := V9) hV9.symm)
  refine x_aload_n C.1 dX12_feelsState_47 0 rfl ?_
  refine x_getA C (N := 33) (i := 0) (by decide) rfl vc_X12 wx_X12 26 (by decide) wf_X12_62 (a := 18) rfl dX12_feelsState_48 ?_
  refine x_bipush C.1 (n := 11) dX12_feelsState_51 ?_
  refine x_bipush C.1 (n := 99) dX12_feelsState_53 ?_
  refine x_iast C (N := 33) (i := 18) (q := 11) (a := 99) (by decide) rfl (by decide) (by decide) dX12_feelsState_55 ?_
  rw [show (11 : Int).toNat = 11 from rfl]
  refine x_gV ?_
  intro V10 hV10
  have hI10 : AI K G V10 := hI9.up hV10 rfl (by decide) rfl (Or.inl (by decide))
  have hB10 := hB9.up hV10 (by rw [mkey_r (by decide)]; rfl)
  replace hF := hF.to (rdb_e (z := V10) hV10.symm)
  exact x_vret (S := (Nat → Nat → Int)) (post := (fun u : Nat → Nat → Int => AI K G u ∧ FBm 4835703278458516698824704 V u ∧ (f_m_feelsState x1 x2 V J Rr) u)) (w1 := (fun u : Nat → Nat → Int => MW cy ad u J Rr)) C hr rfl dX12_feelsState_56 V10 rfl ⟨hI10, hB10, hF _ rfl⟩
theorem hd_yX12_feelsState : yX12_feelsState.cls ≠ "java/lang/invoke/MethodHandle" ∧ yX12_feelsState.cls ≠ "java/lang/invoke/VarHandle" ∧ (parseMethodDescriptor yX12_feelsState.desc).map (fun d => d.parameters.length) = some 2 := by decide +kernel
theorem dX12_cupsIn_0 : decode cX12_cupsIn 0 = .ok (.aload_n 0, 1) := by decide +kernel
theorem dX12_cupsIn_1 : decode cX12_cupsIn 1 = .ok (.getfield 108, 3) := by decide +kernel
theorem dX12_cupsIn_4 : decode cX12_cupsIn 4 = .ok (.iconst (-1), 1) := by decide +kernel
theorem dX12_cupsIn_5 : decode cX12_cupsIn 5 = .ok (.if_icmp .eq 20, 3) := by decide +kernel
theorem dX12_cupsIn_8 : decode cX12_cupsIn 8 = .ok (.iload_n 2, 1) := by decide +kernel
theorem dX12_cupsIn_9 : decode cX12_cupsIn 9 = .ok (.aload_n 0, 1) := by decide +kernel
theorem dX12_cupsIn_10 : decode cX12_cupsIn 10 = .ok (.getfield 310, 3) := by decide +kernel
theorem dX12_cupsIn_13 : decode cX12_cupsIn 13 = .ok (.if_icmp .ge 10, 3) := by decide +kernel
theorem dX12_cupsIn_16 : decode cX12_cupsIn 16 = .ok (.aload_n 0, 1) := by decide +kernel
theorem dX12_cupsIn_17 : decode cX12_cupsIn 17 = .ok (.getfield 108, 3) := by decide +kernel
theorem dX12_cupsIn_20 : decode cX12_cupsIn 20 = .ok (.goto 4, 3) := by decide +kernel
theorem dX12_cupsIn_23 : decode cX12_cupsIn 23 = .ok (.iconst 0, 1) := by decide +kernel
theorem dX12_cupsIn_24 : decode cX12_cupsIn 24 = .ok (.ireturn, 1) := by decide +kernel
theorem dX12_cupsIn_25 : decode cX12_cupsIn 25 = .ok (.aload_n 0, 1) := by decide +kernel
theorem dX12_cupsIn_26 : decode cX12_cupsIn 26 = .ok (.iload_n 1, 1) := by decide +kernel
theorem dX12_cupsIn_27 : decode cX12_cupsIn 27 = .ok (.iload_n 2, 1) := by decide +kernel
theorem dX12_cupsIn_28 : decode cX12_cupsIn 28 = .ok (.invokevirtual 313, 3) := by decide +kernel
theorem dX12_cupsIn_31 : decode cX12_cupsIn 31 = .ok (.aload_n 0, 1) := by decide +kernel
theorem dX12_cupsIn_32 : decode cX12_cupsIn 32 = .ok (.getfield 62, 3) := by decide +kernel
theorem dX12_cupsIn_35 : decode cX12_cupsIn 35 = .ok (.bipush 8, 2) := by decide +kernel
theorem dX12_cupsIn_37 : decode cX12_cupsIn 37 = .ok (.aload_n 0, 1) := by decide +kernel
theorem dX12_cupsIn_38 : decode cX12_cupsIn 38 = .ok (.getfield 68, 3) := by decide +kernel
theorem dX12_cupsIn_41 : decode cX12_cupsIn 41 = .ok (.iload_n 3, 1) := by decide +kernel
theorem dX12_cupsIn_42 : decode cX12_cupsIn 42 = .ok (.iaload, 1) := by decide +kernel
theorem dX12_cupsIn_43 : decode cX12_cupsIn 43 = .ok (.iastore, 1) := by decide +kernel
theorem dX12_cupsIn_44 : decode cX12_cupsIn 44 = .ok (.aload_n 0, 1) := by decide +kernel
theorem dX12_cupsIn_45 : decode cX12_cupsIn 45 = .ok (.getfield 62, 3) := by decide +kernel
theorem dX12_cupsIn_48 : decode cX12_cupsIn 48 = .ok (.bipush 9, 2) := by decide +kernel
theorem dX12_cupsIn_50 : decode cX12_cupsIn 50 = .ok (.aload_n 0, 1) := by decide +kernel
theorem dX12_cupsIn_51 : decode cX12_cupsIn 51 = .ok (.getfield 71, 3) := by decide +kernel
theorem dX12_cupsIn_54 : decode cX12_cupsIn 54 = .ok (.iload_n 3, 1) := by decide +kernel
theorem dX12_cupsIn_55 : decode cX12_cupsIn 55 = .ok (.iaload, 1) := by decide +kernel
theorem dX12_cupsIn_56 : decode cX12_cupsIn 56 = .ok (.iastore, 1) := by decide +kernel
theorem dX12_cupsIn_57 : decode cX12_cupsIn 57 = .ok (.aload_n 0, 1) := by decide +kernel
theorem dX12_cupsIn_58 : decode cX12_cupsIn 58 = .ok (.aload_n 0, 1) := by decide +kernel
theorem dX12_cupsIn_59 : decode cX12_cupsIn 59 = .ok (.getfield 7, 3) := by decide +kernel
theorem dX12_cupsIn_62 : decode cX12_cupsIn 62 = .ok (.bipush 60, 2) := by decide +kernel
theorem dX12_cupsIn_64 : decode cX12_cupsIn 64 = .ok (.aload_n 0, 1) := by decide +kernel
theorem dX12_cupsIn_65 : decode cX12_cupsIn 65 = .ok (.getfield 68, 3) := by decide +kernel
theorem dX12_cupsIn_68 : decode cX12_cupsIn 68 = .ok (.iload_n 3, 1) := by decide +kernel
theorem dX12_cupsIn_69 : decode cX12_cupsIn 69 = .ok (.iaload, 1) := by decide +kernel
theorem dX12_cupsIn_70 : decode cX12_cupsIn 70 = .ok (.iadd, 1) := by decide +kernel
theorem dX12_cupsIn_71 : decode cX12_cupsIn 71 = .ok (.iaload, 1) := by decide +kernel
theorem dX12_cupsIn_72 : decode cX12_cupsIn 72 = .ok (.iconst 1, 1) := by decide +kernel
theorem dX12_cupsIn_73 : decode cX12_cupsIn 73 = .ok (.iadd, 1) := by decide +kernel
theorem dX12_cupsIn_74 : decode cX12_cupsIn 74 = .ok (.bipush 103, 2) := by decide +kernel
theorem dX12_cupsIn_76 : decode cX12_cupsIn 76 = .ok (.bipush 9, 2) := by decide +kernel
theorem dX12_cupsIn_78 : decode cX12_cupsIn 78 = .ok (.invokevirtual 256, 3) := by decide +kernel
theorem dX12_cupsIn_81 : decode cX12_cupsIn 81 = .ok (.ireturn, 1) := by decide +kernel
set_option maxRecDepth 100000 in
def f_m_cupsIn (x1 : Int) (x2 : Int) (x3 : Int) (V : Nat → Nat → Int) (J : Nat → Nat → Int) (Rr : Nat → Nat → Nat) : (Int × (Nat → Nat → Int)) → Prop :=
  rdb (V 0 31) fun z1 => fct (-1 ≤ z1 ∧ z1 ≤ 9) <| (if z1 = (-1) then calUM 4835703278458516698824704 V (f_m_feelsState x1 x2 V J Rr) fun V3 => rdb (V3 20 x3.toNat) fun z4 => fct (0 ≤ z4 ∧ z4 ≤ 7) <| rdb (up2 V3 18 8 z4) fun V5 => rdb (V5 21 x3.toNat) fun z6 => rdb (up2 V5 18 9 z6) fun V7 => rdb (V7 1 ((z4 + 60).toNat)) fun z8 => fct (0 ≤ z8 ∧ z8 ≤ 3) <| calVM 2417851639229258349412352 V7 (f_m_byText (z8 + 1) 103 9 V7 J Rr) fun z9 V9 => fct (0 ≤ z9 ∧ z9 ≤ 999) <| rtn (z9, V9) else rdb (V 0 32) fun z10 => (if z10 ≤ x2 then rtn (0, V) else rtn (z1, V)))
set_option maxHeartbeats 8000000 in
set_option maxRecDepth 100000 in
theorem m_cupsIn (l : Launch) (D : va_G) (cy : Nat → ClassId) (ad : Nat → Nat) (G : Nat → Nat → Int) (V J : Nat → Nat → Int) (Rr : Nat → Nat → Nat) {K : Nat → Nat → Int} (hI : AI K G V) (hJ : VJ J) (hR : MR Rr) (x1 : Int) (bx1 : 0 ≤ x1 ∧ x1 ≤ 499) (x2 : Int) (bx2 : -2147483648 ≤ x2 ∧ x2 ≤ 2147483647) (x3 : Int) (bx3 : 0 ≤ x3 ∧ x3 ≤ 2) (hW : WP G) : xMi l D (xTY cy) yX12_cupsIn cX12_cupsIn 4 (some .int) 4 86 0 0 [.ref (ad 0), vI x1, vI x2, vI x3] (MW cy ad V J Rr) (fun u : Nat → Nat → Int => MW cy ad u J Rr) (fun a (u : Nat → Nat → Int) => AI K G u ∧ (0 ≤ a ∧ a ≤ 999) ∧ FBm 7253554917687775048237056 V u ∧ (f_m_cupsIn x1 x2 x3 V J Rr) (a, u)) := by
  refine xMi.mk (lv0 := [(0, .ref (ad 0)), (1, vI x1), (2, vI x2), (3, vI x3)]) (by decide) rfl (Nat.le_of_ble_eq_true rfl) (fun p e s m below meth c A C hr hnm hAe => ?_)
  have C : xC2 p s m _ meth c D A s.heap 4 cX12_cupsIn RX12 (xTY cy) := C
  have hB : FBm 7253554917687775048237056 V V := FBm.rf _ _
  have hF := Imp.of_eq (f_m_cupsIn.eq_def x1 x2 x3 V J Rr)
  refine x_aload_n C.1 dX12_cupsIn_0 0 rfl ?_
  obtain ⟨z1, ez1, bz1⟩ := hI.rd 0 31 (x := -1) (y := 9) rfl
  replace hF := hF.to (rdb_e (z := z1) ez1)
  replace hF := hF.fc bz1
  refine x_getI C (N := 33) (i := 0) (by decide) rfl vc_X12 wx_X12 31 (by decide) wf_X12_108 rfl dX12_cupsIn_1 (a := z1) ez1 ?_
  refine x_iconst C.1 (n := -1) dX12_cupsIn_4 ?_
  refine x_icmp_eq C.1 (tgt := 25) dX12_cupsIn_5 (by decide) (by omega) (by decide) (fun hc2 => ?_) (fun hc2 => ?_)
  · replace hF := hF.to (if_pos hc2)
    refine x_aload_n C.1 dX12_cupsIn_25 0 rfl ?_
    refine x_iload_n C.1 dX12_cupsIn_26 1 rfl ?_
    refine x_iload_n C.1 dX12_cupsIn_27 2 rfl ?_
    refine x_callVv C (As := [vI x1, vI x2]) (rest := []) 0 (xw_at (N := 33) (i := 0) (by decide) rfl) vc_X12 (m_feelsState l D cy ad G V J Rr (KI.self hI.1) hJ hR x1 ⟨by omega, by omega⟩ x2 ⟨by omega, by omega⟩) (l1 := []) (l2 := []) (List.append_nil _).symm (w2 := fun u : Nat → Nat → Int => MW cy ad u J Rr) (fun _ => List.append_nil _) rfl wm_yX12_feelsState wn_X12 wl_X12_313 wi_yX12_feelsState we_yX12_feelsState hd_yX12_feelsState rfl ⟨Nat.le_of_ble_eq_true rfl, Nat.le_of_ble_eq_true rfl⟩ (Nat.le_of_ble_eq_true rfl) ⟨Nat.le_of_ble_eq_true rfl, Nat.le_of_ble_eq_true rfl⟩ dX12_cupsIn_28 (fun V3 h3 => ?_)
    obtain ⟨hI3, hBc3, hFc3⟩ := h3
    replace hF := calUM_i hF hFc3 hBc3
    have hB3 := hB.tr hBc3 (m := 4835703278458516698824704) rfl
    have hI3c : AI K G V3 := KI.back hI3 hI sub_AA
    refine x_aload_n C.1 dX12_cupsIn_31 0 rfl ?_
    refine x_getA C (N := 33) (i := 0) (by decide) rfl vc_X12 wx_X12 26 (by decide) wf_X12_62 (a := 18) rfl dX12_cupsIn_32 ?_
    refine x_bipush C.1 (n := 8) dX12_cupsIn_35 ?_
    refine x_aload_n C.1 dX12_cupsIn_37 0 rfl ?_
    refine x_getA C (N := 33) (i := 0) (by decide) rfl vc_X12 wx_X12 35 (by decide) wf_X12_68 (a := 20) rfl dX12_cupsIn_38 ?_
    refine x_iload_n C.1 dX12_cupsIn_41 3 rfl ?_
    obtain ⟨z4, ez4, bz4⟩ := hI3c.rd 20 x3.toNat (x := 0) (y := 7) rfl
    replace hF := hF.to (rdb_e (z := z4) ez4)
    replace hF := hF.fc bz4
    refine x_iald C (N := 33) (i := 20) (q := x3) (by decide) rfl (by omega) (by decide) dX12_cupsIn_42 (a := z4) ez4 ?_
    refine x_iast C (N := 33) (i := 18) (q := 8) (a := z4) (by decide) rfl (by decide) (by decide) dX12_cupsIn_43 ?_
    rw [show (8 : Int).toNat = 8 from rfl]
    refine x_gV ?_
    intro V5 hV5
    have hI5 : AI K G V5 := hI3c.up hV5 rfl (by omega) rfl (Or.inl (by decide))
    have hB5 := hB3.up hV5 (by rw [mkey_r (by decide)]; rfl)
    replace hF := hF.to (rdb_e (z := V5) hV5.symm)
    refine x_aload_n C.1 dX12_cupsIn_44 0 rfl ?_
    refine x_getA C (N := 33) (i := 0) (by decide) rfl vc_X12 wx_X12 26 (by decide) wf_X12_62 (a := 18) rfl dX12_cupsIn_45 ?_
    refine x_bipush C.1 (n := 9) dX12_cupsIn_48 ?_
    refine x_aload_n C.1 dX12_cupsIn_50 0 rfl ?_
    refine x_getA C (N := 33) (i := 0) (by decide) rfl vc_X12 wx_X12 36 (by decide) wf_X12_71 (a := 21) rfl dX12_cupsIn_51 ?_
    refine x_iload_n C.1 dX12_cupsIn_54 3 rfl ?_
    obtain ⟨z6, ez6, bz6⟩ := hI5.rd 21 x3.toNat (x := -2147483648) (y := 2147483647) rfl
    replace hF := hF.to (rdb_e (z := z6) ez6)
    refine x_iald C (N := 33) (i := 21) (q := x3) (by decide) rfl (by omega) (by decide) dX12_cupsIn_55 (a := z6) ez6 ?_
    refine x_iast C (N := 33) (i := 18) (q := 9) (a := z6) (by decide) rfl (by decide) (by decide) dX12_cupsIn_56 ?_
    rw [show (9 : Int).toNat = 9 from rfl]
    refine x_gV ?_
    intro V7 hV7
    have hI7 : AI K G V7 := hI5.up hV7 rfl (by omega) rfl (Or.inl (by decide))
    have hB7 := hB5.up hV7 (by rw [mkey_r (by decide)]; rfl)
    replace hF := hF.to (rdb_e (z := V7) hV7.symm)
    refine x_aload_n C.1 dX12_cupsIn_57 0 rfl ?_
    refine x_aload_n C.1 dX12_cupsIn_58 0 rfl ?_
    refine x_getA C (N := 33) (i := 0) (by decide) rfl vc_X12 wx_X12 0 (by decide) wf_X12_7 (a := 1) rfl dX12_cupsIn_59 ?_
    refine x_bipush C.1 (n := 60) dX12_cupsIn_62 ?_
    refine x_aload_n C.1 dX12_cupsIn_64 0 rfl ?_
    refine x_getA C (N := 33) (i := 0) (by decide) rfl vc_X12 wx_X12 35 (by decide) wf_X12_68 (a := 20) rfl dX12_cupsIn_65 ?_
    refine x_iload_n C.1 dX12_cupsIn_68 3 rfl ?_
    refine x_iald C (N := 33) (i := 20) (q := x3) (by decide) rfl (by omega) (by decide) dX12_cupsIn_69 (a := z4) ((congrFun (congrFun hV7 20) x3.toNat).trans ((up2_n _ _ (Or.inl (by decide))).trans ((congrFun (congrFun hV5 20) x3.toNat).trans ((up2_n _ _ (Or.inl (by decide))).trans ez4)))) ?_
    refine x_iadd C.1 (v := z4 + 60) (by omega) dX12_cupsIn_70 ?_
    obtain ⟨z8, ez8, bz8⟩ := hI7.rd 1 ((z4 + 60).toNat) (x := 0) (y := 3) (rgN_68 (Or.inl rfl) (by omega))
    replace hF := hF.to (rdb_e (z := z8) ez8)
    replace hF := hF.fc bz8
    refine x_iald C (N := 33) (i := 1) (q := z4 + 60) (by decide) rfl (by omega) (by decide) dX12_cupsIn_71 (a := z8) ez8 ?_
    refine x_iconst C.1 (n := 1) dX12_cupsIn_72 ?_
    refine x_iadd C.1 (v := z8 + 1) (by omega) dX12_cupsIn_73 ?_
    refine x_bipush C.1 (n := 103) dX12_cupsIn_74 ?_
    refine x_bipush C.1 (n := 9) dX12_cupsIn_76 ?_
    refine x_callVi C (As := [vI (z8 + 1), vI 103, vI 9]) (rest := []) 0 (xw_at (N := 33) (i := 0) (by decide) rfl) vc_X12 (m_byText l D cy ad G V7 J Rr (KI.self hI7.1) hJ hR (z8 + 1) ⟨by omega, by omega⟩ 103 ⟨by decide, by decide⟩ 9 ⟨by decide, by decide⟩ hW) (l1 := []) (l2 := []) (List.append_nil _).symm (w2 := fun u : Nat → Nat → Int => MW cy ad u J Rr) (fun _ => List.append_nil _) rfl wm_yX12_byText wn_X12 wl_X12_256 wi_yX12_byText we_yX12_byText hd_yX12_byText rfl ⟨Nat.le_of_ble_eq_true rfl, Nat.le_of_ble_eq_true rfl⟩ (Nat.le_of_ble_eq_true rfl) ⟨Nat.le_of_ble_eq_true rfl, Nat.le_of_ble_eq_true rfl⟩ dX12_cupsIn_78 (fun z9 V9 bz9 h9 => ?_)
    obtain ⟨hI9, bq9, hBc9, hFc9⟩ := h9
    replace hF := calVM_i hF hFc9 hBc9
    replace hF := hF.fc bq9
    have hB9 := hB7.tr hBc9 (m := 2417851639229258349412352) rfl
    have hI9c : AI K G V9 := KI.back hI9 hI7 sub_AA
    exact x_iret (S := (Nat → Nat → Int)) (post := (fun a (u : Nat → Nat → Int) => AI K G u ∧ (0 ≤ a ∧ a ≤ 999) ∧ FBm 7253554917687775048237056 V u ∧ (f_m_cupsIn x1 x2 x3 V J Rr) (a, u))) (w1 := (fun u : Nat → Nat → Int => MW cy ad u J Rr)) (a := z9) C hr rfl dX12_cupsIn_81 (by omega) V9 rfl ⟨hI9c, ⟨by omega, by omega⟩, hB9, hF _ rfl⟩
  · replace hF := hF.to (if_neg hc2)
    refine x_iload_n C.1 dX12_cupsIn_8 2 rfl ?_
    refine x_aload_n C.1 dX12_cupsIn_9 0 rfl ?_
    obtain ⟨z10, ez10, bz10⟩ := hI.rd 0 32 (x := -2147483648) (y := 2147483647) rfl
    replace hF := hF.to (rdb_e (z := z10) ez10)
    refine x_getI C (N := 33) (i := 0) (by decide) rfl vc_X12 wx_X12 32 (by decide) wf_X12_310 rfl dX12_cupsIn_10 (a := z10) ez10 ?_
    refine x_icmp_ge C.1 (tgt := 23) dX12_cupsIn_13 (by decide) (by omega) (by omega) (fun hc11 => ?_) (fun hc11 => ?_)
    · replace hF := hF.to (if_pos hc11)
      refine x_iconst C.1 (n := 0) dX12_cupsIn_23 ?_
      exact x_iret (S := (Nat → Nat → Int)) (post := (fun a (u : Nat → Nat → Int) => AI K G u ∧ (0 ≤ a ∧ a ≤ 999) ∧ FBm 7253554917687775048237056 V u ∧ (f_m_cupsIn x1 x2 x3 V J Rr) (a, u))) (w1 := (fun u : Nat → Nat → Int => MW cy ad u J Rr)) (a := 0) C hr rfl dX12_cupsIn_24 (by decide) V rfl ⟨hI, ⟨by decide, by decide⟩, hB, hF _ rfl⟩
    · replace hF := hF.to (if_neg hc11)
      refine x_aload_n C.1 dX12_cupsIn_16 0 rfl ?_
      refine x_getI C (N := 33) (i := 0) (by decide) rfl vc_X12 wx_X12 31 (by decide) wf_X12_108 rfl dX12_cupsIn_17 (a := z1) ez1 ?_
      refine x_goto C.1 (tgt := 24) dX12_cupsIn_20 (by decide) ?_
      exact x_iret (S := (Nat → Nat → Int)) (post := (fun a (u : Nat → Nat → Int) => AI K G u ∧ (0 ≤ a ∧ a ≤ 999) ∧ FBm 7253554917687775048237056 V u ∧ (f_m_cupsIn x1 x2 x3 V J Rr) (a, u))) (w1 := (fun u : Nat → Nat → Int => MW cy ad u J Rr)) (a := z1) C hr rfl dX12_cupsIn_24 (by omega) V rfl ⟨hI, ⟨by omega, by omega⟩, hB, hF _ rfl⟩
theorem hd_yX12_cupsIn : yX12_cupsIn.cls ≠ "java/lang/invoke/MethodHandle" ∧ yX12_cupsIn.cls ≠ "java/lang/invoke/VarHandle" ∧ (parseMethodDescriptor yX12_cupsIn.desc).map (fun d => d.parameters.length) = some 3 := by decide +kernel
theorem dX12_comesBy_0 : decode cX12_comesBy 0 = .ok (.iconst 0, 1) := by decide +kernel
theorem dX12_comesBy_1 : decode cX12_comesBy 1 = .ok (.istore_n 3, 1) := by decide +kernel
theorem dX12_comesBy_2 : decode cX12_comesBy 2 = .ok (.iload_n 3, 1) := by decide +kernel
theorem dX12_comesBy_3 : decode cX12_comesBy 3 = .ok (.bipush 24, 2) := by decide +kernel
theorem dX12_comesBy_5 : decode cX12_comesBy 5 = .ok (.if_icmp .gt 33, 3) := by decide +kernel
theorem dX12_comesBy_8 : decode cX12_comesBy 8 = .ok (.aload_n 0, 1) := by decide +kernel
theorem dX12_comesBy_9 : decode cX12_comesBy 9 = .ok (.getfield 81, 3) := by decide +kernel
theorem dX12_comesBy_12 : decode cX12_comesBy 12 = .ok (.iload_n 3, 1) := by decide +kernel
theorem dX12_comesBy_13 : decode cX12_comesBy 13 = .ok (.iload_n 3, 1) := by decide +kernel
theorem dX12_comesBy_14 : decode cX12_comesBy 14 = .ok (.iload_n 1, 1) := by decide +kernel
theorem dX12_comesBy_15 : decode cX12_comesBy 15 = .ok (.bipush 20, 2) := by decide +kernel
theorem dX12_comesBy_17 : decode cX12_comesBy 17 = .ok (.idiv, 1) := by decide +kernel
theorem dX12_comesBy_18 : decode cX12_comesBy 18 = .ok (.if_icmp .ne 12, 3) := by decide +kernel
theorem dX12_comesBy_21 : decode cX12_comesBy 21 = .ok (.aload_n 0, 1) := by decide +kernel
theorem dX12_comesBy_22 : decode cX12_comesBy 22 = .ok (.getfield 74, 3) := by decide +kernel
theorem dX12_comesBy_25 : decode cX12_comesBy 25 = .ok (.iload_n 1, 1) := by decide +kernel
theorem dX12_comesBy_26 : decode cX12_comesBy 26 = .ok (.laload, 1) := by decide +kernel
theorem dX12_comesBy_27 : decode cX12_comesBy 27 = .ok (.goto 4, 3) := by decide +kernel
theorem dX12_comesBy_30 : decode cX12_comesBy 30 = .ok (.lconst 0, 1) := by decide +kernel
theorem dX12_comesBy_31 : decode cX12_comesBy 31 = .ok (.lastore, 1) := by decide +kernel
theorem dX12_comesBy_32 : decode cX12_comesBy 32 = .ok (.iinc 3 1, 3) := by decide +kernel
theorem dX12_comesBy_35 : decode cX12_comesBy 35 = .ok (.goto (-33), 3) := by decide +kernel
theorem dX12_comesBy_38 : decode cX12_comesBy 38 = .ok (.iconst 0, 1) := by decide +kernel
theorem dX12_comesBy_39 : decode cX12_comesBy 39 = .ok (.istore_n 3, 1) := by decide +kernel
theorem dX12_comesBy_40 : decode cX12_comesBy 40 = .ok (.iload_n 3, 1) := by decide +kernel
theorem dX12_comesBy_41 : decode cX12_comesBy 41 = .ok (.iload_n 2, 1) := by decide +kernel
theorem dX12_comesBy_42 : decode cX12_comesBy 42 = .ok (.if_icmp .ge 177, 3) := by decide +kernel
theorem dX12_comesBy_45 : decode cX12_comesBy 45 = .ok (.iconst 0, 1) := by decide +kernel
theorem dX12_comesBy_46 : decode cX12_comesBy 46 = .ok (.istore 4, 2) := by decide +kernel
theorem dX12_comesBy_48 : decode cX12_comesBy 48 = .ok (.iload 4, 2) := by decide +kernel
theorem dX12_comesBy_50 : decode cX12_comesBy 50 = .ok (.bipush 24, 2) := by decide +kernel
theorem dX12_comesBy_52 : decode cX12_comesBy 52 = .ok (.if_icmp .gt 34, 3) := by decide +kernel
theorem dX12_comesBy_55 : decode cX12_comesBy 55 = .ok (.aload_n 0, 1) := by decide +kernel
theorem dX12_comesBy_56 : decode cX12_comesBy 56 = .ok (.getfield 84, 3) := by decide +kernel
theorem dX12_comesBy_59 : decode cX12_comesBy 59 = .ok (.iload 4, 2) := by decide +kernel
theorem dX12_comesBy_61 : decode cX12_comesBy 61 = .ok (.aload_n 0, 1) := by decide +kernel
theorem dX12_comesBy_62 : decode cX12_comesBy 62 = .ok (.getfield 81, 3) := by decide +kernel
theorem dX12_comesBy_65 : decode cX12_comesBy 65 = .ok (.iload 4, 2) := by decide +kernel
theorem dX12_comesBy_67 : decode cX12_comesBy 67 = .ok (.laload, 1) := by decide +kernel
theorem dX12_comesBy_68 : decode cX12_comesBy 68 = .ok (.bipush 10, 2) := by decide +kernel
theorem dX12_comesBy_70 : decode cX12_comesBy 70 = .ok (.aload_n 0, 1) := by decide +kernel
theorem dX12_comesBy_71 : decode cX12_comesBy 71 = .ok (.getfield 71, 3) := by decide +kernel
theorem dX12_comesBy_74 : decode cX12_comesBy 74 = .ok (.iload_n 3, 1) := by decide +kernel
theorem dX12_comesBy_75 : decode cX12_comesBy 75 = .ok (.iaload, 1) := by decide +kernel
theorem dX12_comesBy_76 : decode cX12_comesBy 76 = .ok (.isub, 1) := by decide +kernel
theorem dX12_comesBy_77 : decode cX12_comesBy 77 = .ok (.i2l, 1) := by decide +kernel
theorem dX12_comesBy_78 : decode cX12_comesBy 78 = .ok (.lmul, 1) := by decide +kernel
theorem dX12_comesBy_79 : decode cX12_comesBy 79 = .ok (.lastore, 1) := by decide +kernel
theorem dX12_comesBy_80 : decode cX12_comesBy 80 = .ok (.iinc 4 1, 3) := by decide +kernel
theorem dX12_comesBy_83 : decode cX12_comesBy 83 = .ok (.goto (-35), 3) := by decide +kernel
theorem dX12_comesBy_86 : decode cX12_comesBy 86 = .ok (.iconst 0, 1) := by decide +kernel
theorem dX12_comesBy_87 : decode cX12_comesBy 87 = .ok (.istore 4, 2) := by decide +kernel
theorem dX12_comesBy_89 : decode cX12_comesBy 89 = .ok (.iload 4, 2) := by decide +kernel
theorem dX12_comesBy_91 : decode cX12_comesBy 91 = .ok (.bipush 24, 2) := by decide +kernel
theorem dX12_comesBy_93 : decode cX12_comesBy 93 = .ok (.if_icmp .gt 90, 3) := by decide +kernel
theorem dX12_comesBy_96 : decode cX12_comesBy 96 = .ok (.aload_n 0, 1) := by decide +kernel
theorem dX12_comesBy_97 : decode cX12_comesBy 97 = .ok (.getfield 81, 3) := by decide +kernel
theorem dX12_comesBy_100 : decode cX12_comesBy 100 = .ok (.iload 4, 2) := by decide +kernel
theorem dX12_comesBy_102 : decode cX12_comesBy 102 = .ok (.laload, 1) := by decide +kernel
theorem dX12_comesBy_103 : decode cX12_comesBy 103 = .ok (.lconst 0, 1) := by decide +kernel
theorem dX12_comesBy_104 : decode cX12_comesBy 104 = .ok (.lcmp, 1) := by decide +kernel
theorem dX12_comesBy_105 : decode cX12_comesBy 105 = .ok (.ifCond .eq 72, 3) := by decide +kernel
theorem dX12_comesBy_108 : decode cX12_comesBy 108 = .ok (.aload_n 0, 1) := by decide +kernel
theorem dX12_comesBy_109 : decode cX12_comesBy 109 = .ok (.getfield 71, 3) := by decide +kernel
theorem dX12_comesBy_112 : decode cX12_comesBy 112 = .ok (.iload_n 3, 1) := by decide +kernel
theorem dX12_comesBy_113 : decode cX12_comesBy 113 = .ok (.iaload, 1) := by decide +kernel
theorem dX12_comesBy_114 : decode cX12_comesBy 114 = .ok (.ifCond .ne 6, 3) := by decide +kernel
theorem dX12_comesBy_117 : decode cX12_comesBy 117 = .ok (.goto 60, 3) := by decide +kernel
theorem dX12_comesBy_120 : decode cX12_comesBy 120 = .ok (.aload_n 0, 1) := by decide +kernel
theorem dX12_comesBy_121 : decode cX12_comesBy 121 = .ok (.getfield 7, 3) := by decide +kernel
theorem dX12_comesBy_124 : decode cX12_comesBy 124 = .ok (.iconst 0, 1) := by decide +kernel
theorem dX12_comesBy_125 : decode cX12_comesBy 125 = .ok (.aload_n 0, 1) := by decide +kernel
theorem dX12_comesBy_126 : decode cX12_comesBy 126 = .ok (.getfield 298, 3) := by decide +kernel
theorem dX12_comesBy_129 : decode cX12_comesBy 129 = .ok (.iadd, 1) := by decide +kernel
theorem dX12_comesBy_130 : decode cX12_comesBy 130 = .ok (.iaload, 1) := by decide +kernel
theorem dX12_comesBy_131 : decode cX12_comesBy 131 = .ok (.iload 4, 2) := by decide +kernel
theorem dX12_comesBy_133 : decode cX12_comesBy 133 = .ok (.aload_n 0, 1) := by decide +kernel
theorem dX12_comesBy_134 : decode cX12_comesBy 134 = .ok (.iload_n 1, 1) := by decide +kernel
theorem dX12_comesBy_135 : decode cX12_comesBy 135 = .ok (.iload 4, 2) := by decide +kernel
theorem dX12_comesBy_137 : decode cX12_comesBy 137 = .ok (.iload_n 3, 1) := by decide +kernel
theorem dX12_comesBy_138 : decode cX12_comesBy 138 = .ok (.invokevirtual 316, 3) := by decide +kernel
theorem dX12_comesBy_141 : decode cX12_comesBy 141 = .ok (.iadd, 1) := by decide +kernel
theorem dX12_comesBy_142 : decode cX12_comesBy 142 = .ok (.invokestatic 133, 3) := by decide +kernel
theorem dX12_comesBy_145 : decode cX12_comesBy 145 = .ok (.istore 5, 2) := by decide +kernel
theorem dX12_comesBy_147 : decode cX12_comesBy 147 = .ok (.aload_n 0, 1) := by decide +kernel
theorem dX12_comesBy_148 : decode cX12_comesBy 148 = .ok (.getfield 84, 3) := by decide +kernel
theorem dX12_comesBy_151 : decode cX12_comesBy 151 = .ok (.iload 5, 2) := by decide +kernel
theorem dX12_comesBy_153 : decode cX12_comesBy 153 = .ok (.aload_n 0, 1) := by decide +kernel
theorem dX12_comesBy_154 : decode cX12_comesBy 154 = .ok (.getfield 84, 3) := by decide +kernel
theorem dX12_comesBy_157 : decode cX12_comesBy 157 = .ok (.iload 5, 2) := by decide +kernel
theorem dX12_comesBy_159 : decode cX12_comesBy 159 = .ok (.laload, 1) := by decide +kernel
theorem dX12_comesBy_160 : decode cX12_comesBy 160 = .ok (.aload_n 0, 1) := by decide +kernel
theorem dX12_comesBy_161 : decode cX12_comesBy 161 = .ok (.getfield 81, 3) := by decide +kernel
theorem dX12_comesBy_164 : decode cX12_comesBy 164 = .ok (.iload 4, 2) := by decide +kernel
theorem dX12_comesBy_166 : decode cX12_comesBy 166 = .ok (.laload, 1) := by decide +kernel
theorem dX12_comesBy_167 : decode cX12_comesBy 167 = .ok (.aload_n 0, 1) := by decide +kernel
theorem dX12_comesBy_168 : decode cX12_comesBy 168 = .ok (.getfield 71, 3) := by decide +kernel
theorem dX12_comesBy_171 : decode cX12_comesBy 171 = .ok (.iload_n 3, 1) := by decide +kernel
theorem dX12_comesBy_172 : decode cX12_comesBy 172 = .ok (.iaload, 1) := by decide +kernel
theorem dX12_comesBy_173 : decode cX12_comesBy 173 = .ok (.i2l, 1) := by decide +kernel
theorem dX12_comesBy_174 : decode cX12_comesBy 174 = .ok (.lmul, 1) := by decide +kernel
theorem dX12_comesBy_175 : decode cX12_comesBy 175 = .ok (.ladd, 1) := by decide +kernel
theorem dX12_comesBy_176 : decode cX12_comesBy 176 = .ok (.lastore, 1) := by decide +kernel
theorem dX12_comesBy_177 : decode cX12_comesBy 177 = .ok (.iinc 4 1, 3) := by decide +kernel
theorem dX12_comesBy_180 : decode cX12_comesBy 180 = .ok (.goto (-91), 3) := by decide +kernel
theorem dX12_comesBy_183 : decode cX12_comesBy 183 = .ok (.iconst 0, 1) := by decide +kernel
theorem dX12_comesBy_184 : decode cX12_comesBy 184 = .ok (.istore 4, 2) := by decide +kernel
theorem dX12_comesBy_186 : decode cX12_comesBy 186 = .ok (.iload 4, 2) := by decide +kernel
theorem dX12_comesBy_188 : decode cX12_comesBy 188 = .ok (.bipush 24, 2) := by decide +kernel
theorem dX12_comesBy_190 : decode cX12_comesBy 190 = .ok (.if_icmp .gt 23, 3) := by decide +kernel
theorem dX12_comesBy_193 : decode cX12_comesBy 193 = .ok (.aload_n 0, 1) := by decide +kernel
theorem dX12_comesBy_194 : decode cX12_comesBy 194 = .ok (.getfield 81, 3) := by decide +kernel
theorem dX12_comesBy_197 : decode cX12_comesBy 197 = .ok (.iload 4, 2) := by decide +kernel
theorem dX12_comesBy_199 : decode cX12_comesBy 199 = .ok (.aload_n 0, 1) := by decide +kernel
theorem dX12_comesBy_200 : decode cX12_comesBy 200 = .ok (.getfield 84, 3) := by decide +kernel
theorem dX12_comesBy_203 : decode cX12_comesBy 203 = .ok (.iload 4, 2) := by decide +kernel
theorem dX12_comesBy_205 : decode cX12_comesBy 205 = .ok (.laload, 1) := by decide +kernel
theorem dX12_comesBy_206 : decode cX12_comesBy 206 = .ok (.lastore, 1) := by decide +kernel
theorem dX12_comesBy_207 : decode cX12_comesBy 207 = .ok (.iinc 4 1, 3) := by decide +kernel
theorem dX12_comesBy_210 : decode cX12_comesBy 210 = .ok (.goto (-24), 3) := by decide +kernel
theorem dX12_comesBy_213 : decode cX12_comesBy 213 = .ok (.iinc 3 1, 3) := by decide +kernel
theorem dX12_comesBy_216 : decode cX12_comesBy 216 = .ok (.goto (-176), 3) := by decide +kernel
theorem dX12_comesBy_219 : decode cX12_comesBy 219 = .ok (.return_, 1) := by decide +kernel
set_option maxRecDepth 100000 in
def f_m_comesBy (x1 : Int) (x2 : Int) (V : Nat → Nat → Int) (J : Nat → Nat → Int) (Rr : Nat → Nat → Nat) : (xS) → Prop :=
  lop2 (27) (fun rc25101 (z25100 : Int) (J25101 : Nat → Nat → Int) => (if 24 < z25100 then lop3 (5) (fun rc45994 (z45993 : Int) (V45994 : Nat → Nat → Int) (J45994 : Nat → Nat → Int) => (if x2 ≤ z45993 then rtn (V45994, J45994, Rr) else lop2 (27) (fun rc49134 (z49133 : Int) (J49134 : Nat → Nat → Int) => (if 24 < z49133 then lop3 (27) (fun rc49969 (z49968 : Int) (V49969 : Nat → Nat → Int) (J49969 : Nat → Nat → Int) => (if 24 < z49968 then lop2 (27) (fun rc50121 (z50120 : Int) (J50121 : Nat → Nat → Int) => (if 24 < z50120 then rc45994 (z45993 + 1) V49969 J50121 else rdb (J50121 25 z50120.toNat) fun z50130 => rdb (up2 J50121 24 z50120.toNat z50130) fun J50131 => rc50121 (z50120 + 1) J50131)) 0 J49969 else rdb (J49969 24 z49968.toNat) fun z50132 => jnk (fun (V50147 : Nat → Nat → Int) (J50147 : Nat → Nat → Int) => rc49969 (z49968 + 1) V50147 J50147) fun jf50147 => (if (lcI z50132 0) = 0 then jf50147 V49969 J49969 else rdb (V49969 21 z45993.toNat) fun z50149 => (if ¬ z50149 = 0 then rdb (V49969 0 33) fun z50151 => fct (0 ≤ z50151 ∧ z50151 ≤ 3) <| rdb (V49969 1 z50151.toNat) fun z50152 => fct (0 ≤ z50152 ∧ z50152 ≤ 24) <| calVM 7253554917687775048237056 V49969 (f_m_cupsIn x1 z49968 z45993 V49969 J49969 Rr) fun z50153 V50153 => fct (0 ≤ z50153 ∧ z50153 ≤ 999) <| calR (f_m_min z50152 (z49968 + z50153)) fun z50154 => rdb (J49969 25 z50154.toNat) fun z50156 => rdb (J49969 24 z49968.toNat) fun z50157 => rdb (V50153 21 z45993.toNat) fun z50158 => rdb (wrJ (z50157 * z50158)) fun z50159 => rdb (wrJ (z50156 + z50159)) fun z50160 => rdb (up2 J49969 25 z50154.toNat z50160) fun J50161 => jf50147 V50153 J50161 else jf50147 V49969 J49969)))) 0 V45994 J49134 else rdb (J49134 24 z49133.toNat) fun z50162 => rdb (V45994 21 z45993.toNat) fun z50163 => rdb (wr (-z50163 + 10)) fun z50164 => rdb (wrJ (z50162 * z50164)) fun z50165 => rdb (up2 J49134 25 z49133.toNat z50165) fun J50166 => rc49134 (z49133 + 1) J50166)) 0 J45994)) 0 V J25101 else rdb (iDiv x1 20) fun z50167 => fct (0 ≤ z50167 ∧ z50167 ≤ 499) <| jnk (fun (z50169 : Int) => rdb (up2 J25101 24 z25100.toNat z50169) fun J50171 => rc25101 (z25100 + 1) J50171) fun jf50170 => (if ¬ z25100 = z50167 then jf50170 0 else rdb (J25101 22 x1.toNat) fun z50173 => jf50170 z50173))) 0 J
set_option maxHeartbeats 8000000 in
set_option maxRecDepth 100000 in
theorem m_comesBy (l : Launch) (D : va_G) (cy : Nat → ClassId) (ad : Nat → Nat) (G : Nat → Nat → Int) (V J : Nat → Nat → Int) (Rr : Nat → Nat → Nat) (hI : MI G V) (hJ : VJ J) (hR : MR Rr) (x1 : Int) (bx1 : 0 ≤ x1 ∧ x1 ≤ 499) (x2 : Int) (bx2 : 0 ≤ x2 ∧ x2 ≤ 3) (hW : WP G) : xMv l D (xTY cy) yX12_comesBy cX12_comesBy 6 none 5 109 0 0 [.ref (ad 0), vI x1, vI x2] (MW cy ad V J Rr) (fun u : xS => MW cy ad u.1 u.2.1 u.2.2) (fun u : xS => MS G u ∧ FBm 7253554917687775048237056 V u.1 ∧ (f_m_comesBy x1 x2 V J Rr) u) := by
  refine xMv.mk (lv0 := [(0, .ref (ad 0)), (1, vI x1), (2, vI x2)]) (by decide) rfl (Nat.le_of_ble_eq_true rfl) (fun p e s m below meth c A C hr hnm hAe => ?_)
  have C : xC2 p s m _ meth c D A s.heap 6 cX12_comesBy RX12 (xTY cy) := C
  have hB : FBm 7253554917687775048237056 V V := FBm.rf _ _
  have hF := Imp.of_eq (f_m_comesBy.eq_def x1 x2 V J Rr)
  refine x_iconst C.1 (n := 0) dX12_comesBy_0 ?_
  refine x_istore_n C.1 (lv' := [(3, vI 0), (0, .ref (ad 0)), (1, vI x1), (2, vI x2)]) dX12_comesBy_1 (by decide) rfl ?_
  obtain ⟨bd25101, hbd25101, hF⟩ := lop2_ex hF
  refine x_loop (I := fun x : Int × (Nat → Nat → Int) => match x with | (z25100, J25101) => (0 ≤ z25100 ∧ z25100 ≤ 25) ∧ VJ J25101 ∧ (∃ nf : Nat, (26 - z25100).toNat < nf ∧ Imp (lop2 nf bd25101 z25100 J25101) (f_m_comesBy x1 x2 V J Rr))) (μ := fun x : Int × (Nat → Nat → Int) => match x with | (z25100, J25101) => (26 - z25100).toNat) (wsf := fun x : Int × (Nat → Nat → Int) => match x with | (z25100, J25101) => MW cy ad V J25101 Rr) (lvf := fun x : Int × (Nat → Nat → Int) => match x with | (z25100, J25101) => [(3, vI z25100), (0, .ref (ad 0)), (1, vI x1), (2, vI x2)]) (fun x hI25101x ih25101 => ?_) (0, J) ⟨⟨by decide, by decide⟩, hJ, ⟨_, (by omega), hF⟩⟩ rfl rfl
  obtain ⟨z25100, J25101⟩ := x
  obtain ⟨bz25100, hJ25101, nf25101, hn25101, hF⟩ := hI25101x
  try dsimp only
  obtain ⟨nf25101, rfl⟩ : ∃ mm, nf25101 = mm + 1 := ⟨nf25101 - 1, (Nat.succ_pred_eq_of_pos (Nat.lt_of_le_of_lt (Nat.zero_le _) hn25101)).symm⟩
  replace hF := hF.to (lop2_s hbd25101)
  refine x_iload_n C.1 dX12_comesBy_2 0 rfl ?_
  refine x_bipush C.1 (n := 24) dX12_comesBy_3 ?_
  refine x_icmp_gt C.1 (tgt := 38) dX12_comesBy_5 (by decide) (by omega) (by decide) (fun hc37645 => ?_) (fun hc37645 => ?_)
  · replace hF := hF.to (if_pos hc37645)
    refine x_iconst C.1 (n := 0) dX12_comesBy_38 ?_
    refine x_istore_n C.1 (lv' := [(3, vI 0), (0, .ref (ad 0)), (1, vI x1), (2, vI x2)]) dX12_comesBy_39 (by decide) rfl ?_
    obtain ⟨bd45994, hbd45994, hF⟩ := lop3_ex hF
    refine x_loop (I := fun x : Int × (Nat → Nat → Int) × (Nat → Nat → Int) => match x with | (z45993, V45994, J45994) => (0 ≤ z45993 ∧ z45993 ≤ 3) ∧ MI G V45994 ∧ FBm 7253554917687775048237056 V V45994 ∧ VJ J45994 ∧ (∃ nf : Nat, (4 - z45993).toNat < nf ∧ Imp (lop3 nf bd45994 z45993 V45994 J45994) (f_m_comesBy x1 x2 V J Rr))) (μ := fun x : Int × (Nat → Nat → Int) × (Nat → Nat → Int) => match x with | (z45993, V45994, J45994) => (4 - z45993).toNat) (wsf := fun x : Int × (Nat → Nat → Int) × (Nat → Nat → Int) => match x with | (z45993, V45994, J45994) => MW cy ad V45994 J45994 Rr) (lvf := fun x : Int × (Nat → Nat → Int) × (Nat → Nat → Int) => match x with | (z45993, V45994, J45994) => [(3, vI z45993), (0, .ref (ad 0)), (1, vI x1), (2, vI x2)]) (fun x hI45994x ih45994 => ?_) (0, V, J25101) ⟨⟨by decide, by decide⟩, hI, hB, hJ25101, ⟨_, (by omega), hF⟩⟩ rfl rfl
    obtain ⟨z45993, V45994, J45994⟩ := x
    obtain ⟨bz45993, hI45994, hB45994, hJ45994, nf45994, hn45994, hF⟩ := hI45994x
    try dsimp only
    obtain ⟨nf45994, rfl⟩ : ∃ mm, nf45994 = mm + 1 := ⟨nf45994 - 1, (Nat.succ_pred_eq_of_pos (Nat.lt_of_le_of_lt (Nat.zero_le _) hn45994)).symm⟩
    replace hF := hF.to (lop3_s hbd45994)
    refine x_iload_n C.1 dX12_comesBy_40 0 rfl ?_
    refine x_iload_n C.1 dX12_comesBy_41 3 rfl ?_
    refine x_icmp_ge C.1 (tgt := 219) dX12_comesBy_42 (by decide) (by omega) (by omega) (fun hc48081 => ?_) (fun hc48081 => ?_)
    · replace hF := hF.to (if_pos hc48081)
      exact x_vret (S := xS) (post := (fun u : xS => MS G u ∧ FBm 7253554917687775048237056 V u.1 ∧ (f_m_comesBy x1 x2 V J Rr) u)) (w1 := (fun u : xS => MW cy ad u.1 u.2.1 u.2.2)) C hr rfl dX12_comesBy_219 (V45994, J45994, Rr) rfl ⟨⟨hI45994, hJ45994, hR⟩, hB45994, hF _ rfl⟩
    · replace hF := hF.to (if_neg hc48081)
      refine x_iconst C.1 (n := 0) dX12_comesBy_45 ?_
      refine x_istore C.1 (lv' := [(4, vI 0), (3, vI z45993), (0, .ref (ad 0)), (1, vI x1), (2, vI x2)]) dX12_comesBy_46 (by decide) rfl ?_
      obtain ⟨bd49134, hbd49134, hF⟩ := lop2_ex hF
      refine x_loop (I := fun x : Int × (Nat → Nat → Int) => match x with | (z49133, J49134) => (0 ≤ z49133 ∧ z49133 ≤ 25) ∧ VJ J49134 ∧ (∃ nf : Nat, (26 - z49133).toNat < nf ∧ Imp (lop2 nf bd49134 z49133 J49134) (f_m_comesBy x1 x2 V J Rr))) (μ := fun x : Int × (Nat → Nat → Int) => match x with | (z49133, J49134) => (26 - z49133).toNat) (wsf := fun x : Int × (Nat → Nat → Int) => match x with | (z49133, J49134) => MW cy ad V45994 J49134 Rr) (lvf := fun x : Int × (Nat → Nat → Int) => match x with | (z49133, J49134) => [(4, vI z49133), (3, vI z45993), (0, .ref (ad 0)), (1, vI x1), (2, vI x2)]) (fun x hI49134x ih49134 => ?_) (0, J45994) ⟨⟨by decide, by decide⟩, hJ45994, ⟨_, (by omega), hF⟩⟩ rfl rfl
      obtain ⟨z49133, J49134⟩ := x
      obtain ⟨bz49133, hJ49134, nf49134, hn49134, hF⟩ := hI49134x
      try dsimp only
      obtain ⟨nf49134, rfl⟩ : ∃ mm, nf49134 = mm + 1 := ⟨nf49134 - 1, (Nat.succ_pred_eq_of_pos (Nat.lt_of_le_of_lt (Nat.zero_le _) hn49134)).symm⟩
      replace hF := hF.to (lop2_s hbd49134)
      refine x_iload C.1 dX12_comesBy_48 0 rfl ?_
      refine x_bipush C.1 (n := 24) dX12_comesBy_50 ?_
      refine x_icmp_gt C.1 (tgt := 86) dX12_comesBy_52 (by decide) (by omega) (by decide) (fun hc49656 => ?_) (fun hc49656 => ?_)
      · replace hF := hF.to (if_pos hc49656)
        refine x_iconst C.1 (n := 0) dX12_comesBy_86 ?_
        refine x_istore C.1 (lv' := [(4, vI 0), (3, vI z45993), (0, .ref (ad 0)), (1, vI x1), (2, vI x2)]) dX12_comesBy_87 (by decide) rfl ?_
        obtain ⟨bd49969, hbd49969, hF⟩ := lop3_ex hF
        refine x_loop (I := fun x : Int × (Nat → Nat → Int) × (Nat → Nat → Int) => match x with | (z49968, V49969, J49969) => (0 ≤ z49968 ∧ z49968 ≤ 25) ∧ MI G V49969 ∧ FBm 7253554917687775048237056 V V49969 ∧ VJ J49969 ∧ (∃ nf : Nat, (26 - z49968).toNat < nf ∧ Imp (lop3 nf bd49969 z49968 V49969 J49969) (f_m_comesBy x1 x2 V J Rr))) (μ := fun x : Int × (Nat → Nat → Int) × (Nat → Nat → Int) => match x with | (z49968, V49969, J49969) => (26 - z49968).toNat) (wsf := fun x : Int × (Nat → Nat → Int) × (Nat → Nat → Int) => match x with | (z49968, V49969, J49969) => MW cy ad V49969 J49969 Rr) (lvf := fun x : Int × (Nat → Nat → Int) × (Nat → Nat → Int) => match x with | (z49968, V49969, J49969) => [(4, vI z49968), (3, vI z45993), (0, .ref (ad 0)), (1, vI x1), (2, vI x2)]) (fun x hI49969x ih49969 => ?_) (0, V45994, J49134) ⟨⟨by decide, by decide⟩, hI45994, hB45994, hJ49134, ⟨_, (by omega), hF⟩⟩ rfl rfl
        obtain ⟨z49968, V49969, J49969⟩ := x
        obtain ⟨bz49968, hI49969, hB49969, hJ49969, nf49969, hn49969, hF⟩ := hI49969x
        try dsimp only
        obtain ⟨nf49969, rfl⟩ : ∃ mm, nf49969 = mm + 1 := ⟨nf49969 - 1, (Nat.succ_pred_eq_of_pos (Nat.lt_of_le_of_lt (Nat.zero_le _) hn49969)).symm⟩
        replace hF := hF.to (lop3_s hbd49969)
        refine x_iload C.1 dX12_comesBy_89 0 rfl ?_
        refine x_bipush C.1 (n := 24) dX12_comesBy_91 ?_
        refine x_icmp_gt C.1 (tgt := 183) dX12_comesBy_93 (by decide) (by omega) (by decide) (fun hc50096 => ?_) (fun hc50096 => ?_)
        · replace hF := hF.to (if_pos hc50096)
          refine x_iconst C.1 (n := 0) dX12_comesBy_183 ?_
          refine x_istore C.1 (lv' := [(4, vI 0), (3, vI z45993), (0, .ref (ad 0)), (1, vI x1), (2, vI x2)]) dX12_comesBy_184 (by decide) rfl ?_
          obtain ⟨bd50121, hbd50121, hF⟩ := lop2_ex hF
          refine x_loop (I := fun x : Int × (Nat → Nat → Int) => match x with | (z50120, J50121) => (0 ≤ z50120 ∧ z50120 ≤ 25) ∧ VJ J50121 ∧ (∃ nf : Nat, (26 - z50120).toNat < nf ∧ Imp (lop2 nf bd50121 z50120 J50121) (f_m_comesBy x1 x2 V J Rr))) (μ := fun x : Int × (Nat → Nat → Int) => match x with | (z50120, J50121) => (26 - z50120).toNat) (wsf := fun x : Int × (Nat → Nat → Int) => match x with | (z50120, J50121) => MW cy ad V49969 J50121 Rr) (lvf := fun x : Int × (Nat → Nat → Int) => match x with | (z50120, J50121) => [(4, vI z50120), (3, vI z45993), (0, .ref (ad 0)), (1, vI x1), (2, vI x2)]) (fun x hI50121x ih50121 => ?_) (0, J49969) ⟨⟨by decide, by decide⟩, hJ49969, ⟨_, (by omega), hF⟩⟩ rfl rfl
          obtain ⟨z50120, J50121⟩ := x
          obtain ⟨bz50120, hJ50121, nf50121, hn50121, hF⟩ := hI50121x
          try dsimp only
          obtain ⟨nf50121, rfl⟩ : ∃ mm, nf50121 = mm + 1 := ⟨nf50121 - 1, (Nat.succ_pred_eq_of_pos (Nat.lt_of_le_of_lt (Nat.zero_le _) hn50121)).symm⟩
          replace hF := hF.to (lop2_s hbd50121)
          refine x_iload C.1 dX12_comesBy_186 0 rfl ?_
          refine x_bipush C.1 (n := 24) dX12_comesBy_188 ?_
          refine x_icmp_gt C.1 (tgt := 213) dX12_comesBy_190 (by decide) (by omega) (by decide) (fun hc50129 => ?_) (fun hc50129 => ?_)
          · replace hF := hF.to (if_pos hc50129)
            refine x_iinc C.1 (v := z45993 + 1) (lv' := [(3, vI (z45993 + 1)), (4, vI z50120), (0, .ref (ad 0)), (1, vI x1), (2, vI x2)]) (by omega) dX12_comesBy_213 1 rfl (by decide) rfl ?_
            refine x_goto C.1 (tgt := 40) dX12_comesBy_216 (by decide) ?_
            refine x_lv [(3, vI (z45993 + 1)), (0, .ref (ad 0)), (1, vI x1), (2, vI x2)] [0, 2, 3, 4] rfl ?_
            have hmu45994 : (4 - (z45993 + 1)).toNat < (4 - z45993).toNat := (by omega)
            exact ih45994 (z45993 + 1, V49969, J50121) ⟨⟨by omega, by omega⟩, hI49969, hB49969, hJ50121, ⟨nf45994, Nat.lt_of_lt_of_le hmu45994 (Nat.le_of_lt_succ hn45994), hF⟩⟩ hmu45994
          · replace hF := hF.to (if_neg hc50129)
            refine x_aload_n C.1 dX12_comesBy_193 2 rfl ?_
            refine x_getA C (N := 33) (i := 0) (by decide) rfl vc_X12 wx_X12 40 (by decide) wf_X12_81 (a := 24) rfl dX12_comesBy_194 ?_
            refine x_iload C.1 dX12_comesBy_197 0 rfl ?_
            refine x_aload_n C.1 dX12_comesBy_199 2 rfl ?_
            refine x_getA C (N := 33) (i := 0) (by decide) rfl vc_X12 wx_X12 41 (by decide) wf_X12_84 (a := 25) rfl dX12_comesBy_200 ?_
            refine x_iload C.1 dX12_comesBy_203 0 rfl ?_
            obtain ⟨z50130, ez50130, bz50130⟩ := hJ50121.rd 25 z50120.toNat
            replace hF := hF.to (rdb_e (z := z50130) ez50130)
            refine x_lald C (N := 33) (i := 25) (q := z50120) (by decide) rfl (by omega) (by decide) dX12_comesBy_205 (a := z50130) ez50130 ?_
            refine x_last C (N := 33) (i := 24) (q := z50120) (a := z50130) (by decide) rfl (by omega) (by decide) dX12_comesBy_206 ?_
            refine x_gJ ?_
            intro J50131 hJe50131
            have hJ50131 : VJ J50131 := hJ50121.upS hJe50131 (by omega)
            replace hF := hF.to (rdb_e (z := J50131) hJe50131.symm)
            refine x_iinc C.1 (v := z50120 + 1) (lv' := [(4, vI (z50120 + 1)), (3, vI z45993), (0, .ref (ad 0)), (1, vI x1), (2, vI x2)]) (by omega) dX12_comesBy_207 0 rfl (by decide) rfl ?_
            refine x_goto C.1 (tgt := 186) dX12_comesBy_210 (by decide) ?_
            have hmu50121 : (26 - (z50120 + 1)).toNat < (26 - z50120).toNat := (by omega)
            exact ih50121 (z50120 + 1, J50131) ⟨⟨by omega, by omega⟩, hJ50131, ⟨nf50121, Nat.lt_of_lt_of_le hmu50121 (Nat.le_of_lt_succ hn50121), hF⟩⟩ hmu50121
        · replace hF := hF.to (if_neg hc50096)
          refine x_aload_n C.1 dX12_comesBy_96 2 rfl ?_
          refine x_getA C (N := 33) (i := 0) (by decide) rfl vc_X12 wx_X12 40 (by decide) wf_X12_81 (a := 24) rfl dX12_comesBy_97 ?_
          refine x_iload C.1 dX12_comesBy_100 0 rfl ?_
          obtain ⟨z50132, ez50132, bz50132⟩ := hJ49969.rd 24 z49968.toNat
          replace hF := hF.to (rdb_e (z := z50132) ez50132)
          refine x_lald C (N := 33) (i := 24) (q := z49968) (by decide) rfl (by omega) (by decide) dX12_comesBy_102 (a := z50132) ez50132 ?_
          refine x_lconst0 C.1 dX12_comesBy_103 ?_
          refine x_lcmp C.1 rfl dX12_comesBy_104 (by omega) (by decide) ?_
          have bz50133 := lcI_r2 z50132 0
          obtain ⟨jf50147, hjf50147, hF⟩ := jn_ex hF
          refine x_join (I := fun x : (Nat → Nat → Int) × (Nat → Nat → Int) => match x with | (V50147, J50147) => MI G V50147 ∧ FBm 7253554917687775048237056 V V50147 ∧ VJ J50147 ∧ Imp (jf50147 V50147 J50147) (f_m_comesBy x1 x2 V J Rr)) (wsf := fun x : (Nat → Nat → Int) × (Nat → Nat → Int) => match x with | (V50147, J50147) => MW cy ad V50147 J50147 Rr) (lvf := fun x : (Nat → Nat → Int) × (Nat → Nat → Int) => match x with | (V50147, J50147) => [(4, vI z49968), (3, vI z45993), (0, .ref (ad 0)), (1, vI x1), (2, vI x2)]) (stf := fun x : (Nat → Nat → Int) × (Nat → Nat → Int) => match x with | (V50147, J50147) => []) 177 (fun x hI50147x => ?_) (fun jn50147 => ?_)
          · obtain ⟨V50147, J50147⟩ := x
            obtain ⟨hI50147, hB50147, hJ50147, hF⟩ := hI50147x
            try dsimp only
            replace hF := hF.to (jn_s2 hjf50147)
            refine x_iinc C.1 (v := z49968 + 1) (lv' := [(4, vI (z49968 + 1)), (3, vI z45993), (0, .ref (ad 0)), (1, vI x1), (2, vI x2)]) (by omega) dX12_comesBy_177 0 rfl (by decide) rfl ?_
            refine x_goto C.1 (tgt := 89) dX12_comesBy_180 (by decide) ?_
            have hmu49969 : (26 - (z49968 + 1)).toNat < (26 - z49968).toNat := (by omega)
            exact ih49969 (z49968 + 1, V50147, J50147) ⟨⟨by omega, by omega⟩, hI50147, hB50147, hJ50147, ⟨nf49969, Nat.lt_of_lt_of_le hmu49969 (Nat.le_of_lt_succ hn49969), hF⟩⟩ hmu49969
          · refine x_if_eq C.1 (tgt := 177) dX12_comesBy_105 (by decide) (by omega) (fun hc50148 => ?_) (fun hc50148 => ?_)
            · replace hF := hF.to (if_pos hc50148)
              rw [lcI_eq] at hc50148
              exact jn50147 (V49969, J49969) ⟨hI49969, hB49969, hJ49969, hF⟩
            · replace hF := hF.to (if_neg hc50148)
              rw [lcI_eq] at hc50148
              refine x_aload_n C.1 dX12_comesBy_108 2 rfl ?_
              refine x_getA C (N := 33) (i := 0) (by decide) rfl vc_X12 wx_X12 36 (by decide) wf_X12_71 (a := 21) rfl dX12_comesBy_109 ?_
              refine x_iload_n C.1 dX12_comesBy_112 1 rfl ?_
              obtain ⟨z50149, ez50149, bz50149⟩ := hI49969.rd 21 z45993.toNat (x := -2147483648) (y := 2147483647) rfl
              replace hF := hF.to (rdb_e (z := z50149) ez50149)
              refine x_iald C (N := 33) (i := 21) (q := z45993) (by decide) rfl (by omega) (by decide) dX12_comesBy_113 (a := z50149) ez50149 ?_
              refine x_if_ne C.1 (tgt := 120) dX12_comesBy_114 (by decide) (by omega) (fun hc50150 => ?_) (fun hc50150 => ?_)
              · replace hF := hF.to (if_pos hc50150)
                refine x_aload_n C.1 dX12_comesBy_120 2 rfl ?_
                refine x_getA C (N := 33) (i := 0) (by decide) rfl vc_X12 wx_X12 0 (by decide) wf_X12_7 (a := 1) rfl dX12_comesBy_121 ?_
                refine x_iconst C.1 (n := 0) dX12_comesBy_124 ?_
                refine x_aload_n C.1 dX12_comesBy_125 2 rfl ?_
                obtain ⟨z50151, ez50151, bz50151⟩ := hI49969.rd 0 33 (x := 0) (y := 3) rfl
                replace hF := hF.to (rdb_e (z := z50151) ez50151)
                replace hF := hF.fc bz50151
                refine x_getI C (N := 33) (i := 0) (by decide) rfl vc_X12 wx_X12 33 (by decide) wf_X12_298 rfl dX12_comesBy_126 (a := z50151) ez50151 ?_
                refine x_iadd C.1 (v := z50151) (by omega) dX12_comesBy_129 ?_
                obtain ⟨z50152, ez50152, bz50152⟩ := hI49969.rd 1 z50151.toNat (x := 0) (y := 24) (rgN_8 (Or.inl rfl) (by omega))
                replace hF := hF.to (rdb_e (z := z50152) ez50152)
                replace hF := hF.fc bz50152
                refine x_iald C (N := 33) (i := 1) (q := z50151) (by decide) rfl (by omega) (by decide) dX12_comesBy_130 (a := z50152) ez50152 ?_
                refine x_iload C.1 dX12_comesBy_131 0 rfl ?_
                refine x_aload_n C.1 dX12_comesBy_133 2 rfl ?_
                refine x_iload_n C.1 dX12_comesBy_134 3 rfl ?_
                refine x_iload C.1 dX12_comesBy_135 0 rfl ?_
                refine x_iload_n C.1 dX12_comesBy_137 1 rfl ?_
                refine x_callVi C (As := [vI x1, vI z49968, vI z45993]) (rest := [vI z49968, vI z50152]) 0 (xw_at (N := 33) (i := 0) (by decide) rfl) vc_X12 (m_cupsIn l D cy ad G V49969 J49969 Rr (KI.self hI49969) hJ49969 hR x1 ⟨by omega, by omega⟩ z49968 ⟨by omega, by omega⟩ z45993 ⟨by omega, by omega⟩ hW) (l1 := []) (l2 := []) (List.append_nil _).symm (w2 := fun u : Nat → Nat → Int => MW cy ad u J49969 Rr) (fun _ => List.append_nil _) rfl wm_yX12_cupsIn wn_X12 wl_X12_316 wi_yX12_cupsIn we_yX12_cupsIn hd_yX12_cupsIn rfl ⟨Nat.le_of_ble_eq_true rfl, Nat.le_of_ble_eq_true rfl⟩ (Nat.le_of_ble_eq_true rfl) ⟨Nat.le_of_ble_eq_true rfl, Nat.le_of_ble_eq_true rfl⟩ dX12_comesBy_138 (fun z50153 V50153 bz50153 h50153 => ?_)
                obtain ⟨hI50153, bq50153, hBc50153, hFc50153⟩ := h50153
                replace hF := calVM_i hF hFc50153 hBc50153
                replace hF := hF.fc bq50153
                have hB50153 := hB49969.tr hBc50153 (m := 7253554917687775048237056) rfl
                have hI50153c := hI50153.1
                refine x_iadd C.1 (v := z49968 + z50153) (by omega) dX12_comesBy_141 ?_
                refine x_callSi C (As := [vI z50152, vI (z49968 + z50153)]) (rest := []) (m_min l D cy z50152 ⟨by omega, by omega⟩ (z49968 + z50153) ⟨by omega, by omega⟩) (l1 := []) (l2 := _) rfl (w2 := fun _ => _) (fun _ => rfl) rfl wm_yX12_min wn_X12 wl_X12_133 wi_yX12_min hd_yX12_min rfl ⟨Nat.le_of_ble_eq_true rfl, Nat.le_of_ble_eq_true rfl⟩ (Nat.le_of_ble_eq_true rfl) ⟨Nat.le_of_ble_eq_true rfl, Nat.le_of_ble_eq_true rfl⟩ dX12_comesBy_142 (fun z50154 u50154 bz50154 h50154 => ?_)
                obtain ⟨hx50154_0, hFc50154⟩ := h50154
                replace hF := calR_i hF hFc50154
                have bm50155 : 0 ≤ z50154 ∧ z50154 ≤ 24 := by omega
                skip
                refine x_istore C.1 (lv' := [(5, vI z50154), (4, vI z49968), (3, vI z45993), (0, .ref (ad 0)), (1, vI x1), (2, vI x2)]) dX12_comesBy_145 (by decide) rfl ?_
                refine x_aload_n C.1 dX12_comesBy_147 3 rfl ?_
                refine x_getA C (N := 33) (i := 0) (by decide) rfl vc_X12 wx_X12 41 (by decide) wf_X12_84 (a := 25) rfl dX12_comesBy_148 ?_
                refine x_iload C.1 dX12_comesBy_151 0 rfl ?_
                refine x_aload_n C.1 dX12_comesBy_153 3 rfl ?_
                refine x_getA C (N := 33) (i := 0) (by decide) rfl vc_X12 wx_X12 41 (by decide) wf_X12_84 (a := 25) rfl dX12_comesBy_154 ?_
                refine x_iload C.1 dX12_comesBy_157 0 rfl ?_
                obtain ⟨z50156, ez50156, bz50156⟩ := hJ49969.rd 25 z50154.toNat
                replace hF := hF.to (rdb_e (z := z50156) ez50156)
                refine x_lald C (N := 33) (i := 25) (q := z50154) (by decide) rfl (by omega) (by decide) dX12_comesBy_159 (a := z50156) ez50156 ?_
                refine x_aload_n C.1 dX12_comesBy_160 3 rfl ?_
                refine x_getA C (N := 33) (i := 0) (by decide) rfl vc_X12 wx_X12 40 (by decide) wf_X12_81 (a := 24) rfl dX12_comesBy_161 ?_
                refine x_iload C.1 dX12_comesBy_164 1 rfl ?_
                obtain ⟨z50157, ez50157, bz50157⟩ := hJ49969.rd 24 z49968.toNat
                replace hF := hF.to (rdb_e (z := z50157) ez50157)
                refine x_lald C (N := 33) (i := 24) (q := z49968) (by decide) rfl (by omega) (by decide) dX12_comesBy_166 (a := z50157) ez50157 ?_
                refine x_aload_n C.1 dX12_comesBy_167 3 rfl ?_
                refine x_getA C (N := 33) (i := 0) (by decide) rfl vc_X12 wx_X12 36 (by decide) wf_X12_71 (a := 21) rfl dX12_comesBy_168 ?_
                refine x_iload_n C.1 dX12_comesBy_171 2 rfl ?_
                obtain ⟨z50158, ez50158, bz50158⟩ := hI50153c.rd 21 z45993.toNat (x := -2147483648) (y := 2147483647) rfl
                replace hF := hF.to (rdb_e (z := z50158) ez50158)
                refine x_iald C (N := 33) (i := 21) (q := z45993) (by decide) rfl (by omega) (by decide) dX12_comesBy_172 (a := z50158) ez50158 ?_
                refine x_i2l C.1 dX12_comesBy_173 (by omega) ?_
                refine x_lmul C.1 rfl dX12_comesBy_174 ?_
                refine x_wrapJg ?_
                intro z50159 bz50159 ew50159
                replace hF := hF.to (rdb_e (z := z50159) ew50159.symm)
                refine x_ladd C.1 (v := z50156 + z50159) (by omega) dX12_comesBy_175 ?_
                refine x_wrapJg ?_
                intro z50160 bz50160 ew50160
                replace hF := hF.to (rdb_e (z := z50160) ew50160.symm)
                refine x_last C (N := 33) (i := 25) (q := z50154) (a := z50160) (by decide) rfl (by omega) (by decide) dX12_comesBy_176 ?_
                refine x_gJ ?_
                intro J50161 hJe50161
                have hJ50161 : VJ J50161 := hJ49969.upS hJe50161 (by omega)
                replace hF := hF.to (rdb_e (z := J50161) hJe50161.symm)
                refine x_lv [(4, vI z49968), (3, vI z45993), (0, .ref (ad 0)), (1, vI x1), (2, vI x2)] [1, 2, 3, 4, 5] rfl ?_
                exact jn50147 (V50153, J50161) ⟨hI50153c, hB50153, hJ50161, hF⟩
              · replace hF := hF.to (if_neg (fun hh => hh hc50150))
                refine x_goto C.1 (tgt := 177) dX12_comesBy_117 (by decide) ?_
                exact jn50147 (V49969, J49969) ⟨hI49969, hB49969, hJ49969, hF⟩
      · replace hF := hF.to (if_neg hc49656)
        refine x_aload_n C.1 dX12_comesBy_55 2 rfl ?_
        refine x_getA C (N := 33) (i := 0) (by decide) rfl vc_X12 wx_X12 41 (by decide) wf_X12_84 (a := 25) rfl dX12_comesBy_56 ?_
        refine x_iload C.1 dX12_comesBy_59 0 rfl ?_
        refine x_aload_n C.1 dX12_comesBy_61 2 rfl ?_
        refine x_getA C (N := 33) (i := 0) (by decide) rfl vc_X12 wx_X12 40 (by decide) wf_X12_81 (a := 24) rfl dX12_comesBy_62 ?_
        refine x_iload C.1 dX12_comesBy_65 0 rfl ?_
        obtain ⟨z50162, ez50162, bz50162⟩ := hJ49134.rd 24 z49133.toNat
        replace hF := hF.to (rdb_e (z := z50162) ez50162)
        refine x_lald C (N := 33) (i := 24) (q := z49133) (by decide) rfl (by omega) (by decide) dX12_comesBy_67 (a := z50162) ez50162 ?_
        refine x_bipush C.1 (n := 10) dX12_comesBy_68 ?_
        refine x_aload_n C.1 dX12_comesBy_70 2 rfl ?_
        refine x_getA C (N := 33) (i := 0) (by decide) rfl vc_X12 wx_X12 36 (by decide) wf_X12_71 (a := 21) rfl dX12_comesBy_71 ?_
        refine x_iload_n C.1 dX12_comesBy_74 1 rfl ?_
        obtain ⟨z50163, ez50163, bz50163⟩ := hI45994.rd 21 z45993.toNat (x := -2147483648) (y := 2147483647) rfl
        replace hF := hF.to (rdb_e (z := z50163) ez50163)
        refine x_iald C (N := 33) (i := 21) (q := z45993) (by decide) rfl (by omega) (by decide) dX12_comesBy_75 (a := z50163) ez50163 ?_
        refine x_isub C.1 (v := -z50163 + 10) (by omega) dX12_comesBy_76 ?_
        refine x_wrapg ?_
        intro z50164 bz50164 ew50164
        replace hF := hF.to (rdb_e (z := z50164) ew50164.symm)
        refine x_i2l C.1 dX12_comesBy_77 (by omega) ?_
        refine x_lmul C.1 rfl dX12_comesBy_78 ?_
        refine x_wrapJg ?_
        intro z50165 bz50165 ew50165
        replace hF := hF.to (rdb_e (z := z50165) ew50165.symm)
        refine x_last C (N := 33) (i := 25) (q := z49133) (a := z50165) (by decide) rfl (by omega) (by decide) dX12_comesBy_79 ?_
        refine x_gJ ?_
        intro J50166 hJe50166
        have hJ50166 : VJ J50166 := hJ49134.upS hJe50166 (by omega)
        replace hF := hF.to (rdb_e (z := J50166) hJe50166.symm)
        refine x_iinc C.1 (v := z49133 + 1) (lv' := [(4, vI (z49133 + 1)), (3, vI z45993), (0, .ref (ad 0)), (1, vI x1), (2, vI x2)]) (by omega) dX12_comesBy_80 0 rfl (by decide) rfl ?_
        refine x_goto C.1 (tgt := 48) dX12_comesBy_83 (by decide) ?_
        have hmu49134 : (26 - (z49133 + 1)).toNat < (26 - z49133).toNat := (by omega)
        exact ih49134 (z49133 + 1, J50166) ⟨⟨by omega, by omega⟩, hJ50166, ⟨nf49134, Nat.lt_of_lt_of_le hmu49134 (Nat.le_of_lt_succ hn49134), hF⟩⟩ hmu49134
  · replace hF := hF.to (if_neg hc37645)
    refine x_aload_n C.1 dX12_comesBy_8 1 rfl ?_
    refine x_getA C (N := 33) (i := 0) (by decide) rfl vc_X12 wx_X12 40 (by decide) wf_X12_81 (a := 24) rfl dX12_comesBy_9 ?_
    refine x_iload_n C.1 dX12_comesBy_12 0 rfl ?_
    refine x_iload_n C.1 dX12_comesBy_13 0 rfl ?_
    refine x_iload_n C.1 dX12_comesBy_14 2 rfl ?_
    refine x_bipush C.1 (n := 20) dX12_comesBy_15 ?_
    obtain ⟨z50167, hz50167, bz50167⟩ : ∃ z : Int, iDiv x1 20 = z ∧ (0 ≤ z ∧ z ≤ 499) := ⟨_, rfl, iDiv_n (by omega) (by omega)⟩
    replace hF := hF.to (rdb_e (z := z50167) hz50167)
    replace hF := hF.fc bz50167
    refine x_idiv C.1 (v := z50167) hz50167 dX12_comesBy_17 (by decide) (by decide) ?_
    obtain ⟨jf50170, hjf50170, hF⟩ := jn_ex hF
    refine x_join (I := fun z50169 : Int => (-9223372036854775808 ≤ z50169 ∧ z50169 ≤ 9223372036854775807) ∧ Imp (jf50170 z50169) (f_m_comesBy x1 x2 V J Rr)) (wsf := fun z50169 : Int => MW cy ad V J25101 Rr) (lvf := fun z50169 : Int => [(3, vI z25100), (0, .ref (ad 0)), (1, vI x1), (2, vI x2)]) (stf := fun z50169 : Int => [vJ z50169, vI z25100, .ref (ad 24)]) 31 (fun z50169 hI50170x => ?_) (fun jn50170 => ?_)
    · obtain ⟨bz50169, hF⟩ := hI50170x
      try dsimp only
      replace hF := hF.to (jn_s1 hjf50170)
      refine x_last C (N := 33) (i := 24) (q := z25100) (a := z50169) (by decide) rfl (by omega) (by decide) dX12_comesBy_31 ?_
      refine x_gJ ?_
      intro J50171 hJe50171
      have hJ50171 : VJ J50171 := hJ25101.upS hJe50171 (by omega)
      replace hF := hF.to (rdb_e (z := J50171) hJe50171.symm)
      refine x_iinc C.1 (v := z25100 + 1) (lv' := [(3, vI (z25100 + 1)), (0, .ref (ad 0)), (1, vI x1), (2, vI x2)]) (by omega) dX12_comesBy_32 0 rfl (by decide) rfl ?_
      refine x_goto C.1 (tgt := 2) dX12_comesBy_35 (by decide) ?_
      have hmu25101 : (26 - (z25100 + 1)).toNat < (26 - z25100).toNat := (by omega)
      exact ih25101 (z25100 + 1, J50171) ⟨⟨by omega, by omega⟩, hJ50171, ⟨nf25101, Nat.lt_of_lt_of_le hmu25101 (Nat.le_of_lt_succ hn25101), hF⟩⟩ hmu25101
    · refine x_icmp_ne C.1 (tgt := 30) dX12_comesBy_18 (by decide) (by omega) (by omega) (fun hc50172 => ?_) (fun hc50172 => ?_)
      · replace hF := hF.to (if_pos hc50172)
        refine x_lconst0 C.1 dX12_comesBy_30 ?_
        exact jn50170 0 ⟨⟨by decide, by decide⟩, hF⟩
      · replace hF := hF.to (if_neg (fun hh => hh hc50172))
        refine x_aload_n C.1 dX12_comesBy_21 1 rfl ?_
        refine x_getA C (N := 33) (i := 0) (by decide) rfl vc_X12 wx_X12 37 (by decide) wf_X12_74 (a := 22) rfl dX12_comesBy_22 ?_
        refine x_iload_n C.1 dX12_comesBy_25 2 rfl ?_
        obtain ⟨z50173, ez50173, bz50173⟩ := hJ25101.rd 22 x1.toNat
        replace hF := hF.to (rdb_e (z := z50173) ez50173)
        refine x_lald C (N := 33) (i := 22) (q := x1) (by decide) rfl (by omega) (by decide) dX12_comesBy_26 (a := z50173) ez50173 ?_
        refine x_goto C.1 (tgt := 31) dX12_comesBy_27 (by decide) ?_
        exact jn50170 z50173 ⟨⟨by omega, by omega⟩, hF⟩
theorem hd_yX12_stateOf : yX12_stateOf.cls ≠ "java/lang/invoke/MethodHandle" ∧ yX12_stateOf.cls ≠ "java/lang/invoke/VarHandle" ∧ (parseMethodDescriptor yX12_stateOf.desc).map (fun d => d.parameters.length) = some 3 := by decide +kernel
theorem dX12_sunBy_0 : decode cX12_sunBy 0 = .ok (.aload_n 0, 1) := by decide +kernel
theorem dX12_sunBy_1 : decode cX12_sunBy 1 = .ok (.iload_n 1, 1) := by decide +kernel
theorem dX12_sunBy_2 : decode cX12_sunBy 2 = .ok (.iload_n 2, 1) := by decide +kernel
theorem dX12_sunBy_3 : decode cX12_sunBy 3 = .ok (.invokevirtual 313, 3) := by decide +kernel
theorem dX12_sunBy_6 : decode cX12_sunBy 6 = .ok (.aload_n 0, 1) := by decide +kernel
theorem dX12_sunBy_7 : decode cX12_sunBy 7 = .ok (.iconst 0, 1) := by decide +kernel
theorem dX12_sunBy_8 : decode cX12_sunBy 8 = .ok (.bipush 101, 2) := by decide +kernel
theorem dX12_sunBy_10 : decode cX12_sunBy 10 = .ok (.bipush 9, 2) := by decide +kernel
theorem dX12_sunBy_12 : decode cX12_sunBy 12 = .ok (.invokevirtual 256, 3) := by decide +kernel
theorem dX12_sunBy_15 : decode cX12_sunBy 15 = .ok (.istore 4, 2) := by decide +kernel
theorem dX12_sunBy_17 : decode cX12_sunBy 17 = .ok (.iload_n 3, 1) := by decide +kernel
theorem dX12_sunBy_18 : decode cX12_sunBy 18 = .ok (.ifCond .eq 17, 3) := by decide +kernel
theorem dX12_sunBy_21 : decode cX12_sunBy 21 = .ok (.iload 4, 2) := by decide +kernel
theorem dX12_sunBy_23 : decode cX12_sunBy 23 = .ok (.aload_n 0, 1) := by decide +kernel
theorem dX12_sunBy_24 : decode cX12_sunBy 24 = .ok (.iconst 0, 1) := by decide +kernel
theorem dX12_sunBy_25 : decode cX12_sunBy 25 = .ok (.bipush 104, 2) := by decide +kernel
theorem dX12_sunBy_27 : decode cX12_sunBy 27 = .ok (.bipush 9, 2) := by decide +kernel
theorem dX12_sunBy_29 : decode cX12_sunBy 29 = .ok (.invokevirtual 256, 3) := by decide +kernel
theorem dX12_sunBy_32 : decode cX12_sunBy 32 = .ok (.iadd, 1) := by decide +kernel
theorem dX12_sunBy_33 : decode cX12_sunBy 33 = .ok (.istore 4, 2) := by decide +kernel
theorem dX12_sunBy_35 : decode cX12_sunBy 35 = .ok (.iconst 0, 1) := by decide +kernel
theorem dX12_sunBy_36 : decode cX12_sunBy 36 = .ok (.iload_n 2, 1) := by decide +kernel
theorem dX12_sunBy_37 : decode cX12_sunBy 37 = .ok (.iload 4, 2) := by decide +kernel
theorem dX12_sunBy_39 : decode cX12_sunBy 39 = .ok (.isub, 1) := by decide +kernel
theorem dX12_sunBy_40 : decode cX12_sunBy 40 = .ok (.invokestatic 272, 3) := by decide +kernel
theorem dX12_sunBy_43 : decode cX12_sunBy 43 = .ok (.istore 5, 2) := by decide +kernel
theorem dX12_sunBy_45 : decode cX12_sunBy 45 = .ok (.iload 5, 2) := by decide +kernel
theorem dX12_sunBy_47 : decode cX12_sunBy 47 = .ok (.ifCond .ne 12, 3) := by decide +kernel
theorem dX12_sunBy_50 : decode cX12_sunBy 50 = .ok (.iload_n 1, 1) := by decide +kernel
theorem dX12_sunBy_51 : decode cX12_sunBy 51 = .ok (.invokestatic 304, 3) := by decide +kernel
theorem dX12_sunBy_54 : decode cX12_sunBy 54 = .ok (.iconst 1, 1) := by decide +kernel
theorem dX12_sunBy_55 : decode cX12_sunBy 55 = .ok (.iadd, 1) := by decide +kernel
theorem dX12_sunBy_56 : decode cX12_sunBy 56 = .ok (.goto 4, 3) := by decide +kernel
theorem dX12_sunBy_59 : decode cX12_sunBy 59 = .ok (.iconst 0, 1) := by decide +kernel
theorem dX12_sunBy_60 : decode cX12_sunBy 60 = .ok (.istore 6, 2) := by decide +kernel
theorem dX12_sunBy_62 : decode cX12_sunBy 62 = .ok (.iload 5, 2) := by decide +kernel
theorem dX12_sunBy_64 : decode cX12_sunBy 64 = .ok (.aload_n 0, 1) := by decide +kernel
theorem dX12_sunBy_65 : decode cX12_sunBy 65 = .ok (.getfield 7, 3) := by decide +kernel
theorem dX12_sunBy_68 : decode cX12_sunBy 68 = .ok (.iconst 0, 1) := by decide +kernel
theorem dX12_sunBy_69 : decode cX12_sunBy 69 = .ok (.aload_n 0, 1) := by decide +kernel
theorem dX12_sunBy_70 : decode cX12_sunBy 70 = .ok (.getfield 298, 3) := by decide +kernel
theorem dX12_sunBy_73 : decode cX12_sunBy 73 = .ok (.iadd, 1) := by decide +kernel
theorem dX12_sunBy_74 : decode cX12_sunBy 74 = .ok (.iaload, 1) := by decide +kernel
theorem dX12_sunBy_75 : decode cX12_sunBy 75 = .ok (.if_icmp .ne 12, 3) := by decide +kernel
theorem dX12_sunBy_78 : decode cX12_sunBy 78 = .ok (.iload_n 1, 1) := by decide +kernel
theorem dX12_sunBy_79 : decode cX12_sunBy 79 = .ok (.invokestatic 307, 3) := by decide +kernel
theorem dX12_sunBy_82 : decode cX12_sunBy 82 = .ok (.iconst 1, 1) := by decide +kernel
theorem dX12_sunBy_83 : decode cX12_sunBy 83 = .ok (.iadd, 1) := by decide +kernel
theorem dX12_sunBy_84 : decode cX12_sunBy 84 = .ok (.goto 4, 3) := by decide +kernel
theorem dX12_sunBy_87 : decode cX12_sunBy 87 = .ok (.iconst 0, 1) := by decide +kernel
theorem dX12_sunBy_88 : decode cX12_sunBy 88 = .ok (.istore 7, 2) := by decide +kernel
theorem dX12_sunBy_90 : decode cX12_sunBy 90 = .ok (.aload_n 0, 1) := by decide +kernel
theorem dX12_sunBy_91 : decode cX12_sunBy 91 = .ok (.getfield 81, 3) := by decide +kernel
theorem dX12_sunBy_94 : decode cX12_sunBy 94 = .ok (.iload_n 2, 1) := by decide +kernel
theorem dX12_sunBy_95 : decode cX12_sunBy 95 = .ok (.laload, 1) := by decide +kernel
theorem dX12_sunBy_96 : decode cX12_sunBy 96 = .ok (.ldc2_w 319, 3) := by decide +kernel
theorem dX12_sunBy_99 : decode cX12_sunBy 99 = .ok (.lmul, 1) := by decide +kernel
theorem dX12_sunBy_100 : decode cX12_sunBy 100 = .ok (.lstore 8, 2) := by decide +kernel
theorem dX12_sunBy_102 : decode cX12_sunBy 102 = .ok (.iload 6, 2) := by decide +kernel
theorem dX12_sunBy_104 : decode cX12_sunBy 104 = .ok (.aload_n 0, 1) := by decide +kernel
theorem dX12_sunBy_105 : decode cX12_sunBy 105 = .ok (.getfield 7, 3) := by decide +kernel
theorem dX12_sunBy_108 : decode cX12_sunBy 108 = .ok (.bipush 8, 2) := by decide +kernel
theorem dX12_sunBy_110 : decode cX12_sunBy 110 = .ok (.aload_n 0, 1) := by decide +kernel
theorem dX12_sunBy_111 : decode cX12_sunBy 111 = .ok (.getfield 298, 3) := by decide +kernel
theorem dX12_sunBy_114 : decode cX12_sunBy 114 = .ok (.iadd, 1) := by decide +kernel
theorem dX12_sunBy_115 : decode cX12_sunBy 115 = .ok (.iaload, 1) := by decide +kernel
theorem dX12_sunBy_116 : decode cX12_sunBy 116 = .ok (.if_icmp .ge 20, 3) := by decide +kernel
theorem dX12_sunBy_119 : decode cX12_sunBy 119 = .ok (.iload 7, 2) := by decide +kernel
theorem dX12_sunBy_121 : decode cX12_sunBy 121 = .ok (.aload_n 0, 1) := by decide +kernel
theorem dX12_sunBy_122 : decode cX12_sunBy 122 = .ok (.getfield 7, 3) := by decide +kernel
theorem dX12_sunBy_125 : decode cX12_sunBy 125 = .ok (.bipush 8, 2) := by decide +kernel
theorem dX12_sunBy_127 : decode cX12_sunBy 127 = .ok (.aload_n 0, 1) := by decide +kernel
theorem dX12_sunBy_128 : decode cX12_sunBy 128 = .ok (.getfield 298, 3) := by decide +kernel
theorem dX12_sunBy_131 : decode cX12_sunBy 131 = .ok (.iadd, 1) := by decide +kernel
theorem dX12_sunBy_132 : decode cX12_sunBy 132 = .ok (.iaload, 1) := by decide +kernel
theorem dX12_sunBy_133 : decode cX12_sunBy 133 = .ok (.if_icmp .lt 17, 3) := by decide +kernel
theorem dX12_sunBy_136 : decode cX12_sunBy 136 = .ok (.aload_n 0, 1) := by decide +kernel
theorem dX12_sunBy_137 : decode cX12_sunBy 137 = .ok (.aload_n 0, 1) := by decide +kernel
theorem dX12_sunBy_138 : decode cX12_sunBy 138 = .ok (.getfield 321, 3) := by decide +kernel
theorem dX12_sunBy_141 : decode cX12_sunBy 141 = .ok (.lload 8, 2) := by decide +kernel
theorem dX12_sunBy_143 : decode cX12_sunBy 143 = .ok (.ladd, 1) := by decide +kernel
theorem dX12_sunBy_144 : decode cX12_sunBy 144 = .ok (.putfield 321, 3) := by decide +kernel
theorem dX12_sunBy_147 : decode cX12_sunBy 147 = .ok (.goto 34, 3) := by decide +kernel
theorem dX12_sunBy_150 : decode cX12_sunBy 150 = .ok (.aload_n 0, 1) := by decide +kernel
theorem dX12_sunBy_151 : decode cX12_sunBy 151 = .ok (.getfield 78, 3) := by decide +kernel
theorem dX12_sunBy_154 : decode cX12_sunBy 154 = .ok (.iload 5, 2) := by decide +kernel
theorem dX12_sunBy_156 : decode cX12_sunBy 156 = .ok (.iload 6, 2) := by decide +kernel
theorem dX12_sunBy_158 : decode cX12_sunBy 158 = .ok (.iload 7, 2) := by decide +kernel
theorem dX12_sunBy_160 : decode cX12_sunBy 160 = .ok (.invokestatic 325, 3) := by decide +kernel
theorem dX12_sunBy_163 : decode cX12_sunBy 163 = .ok (.aload_n 0, 1) := by decide +kernel
theorem dX12_sunBy_164 : decode cX12_sunBy 164 = .ok (.getfield 78, 3) := by decide +kernel
theorem dX12_sunBy_167 : decode cX12_sunBy 167 = .ok (.iload 5, 2) := by decide +kernel
theorem dX12_sunBy_169 : decode cX12_sunBy 169 = .ok (.iload 6, 2) := by decide +kernel
theorem dX12_sunBy_171 : decode cX12_sunBy 171 = .ok (.iload 7, 2) := by decide +kernel
theorem dX12_sunBy_173 : decode cX12_sunBy 173 = .ok (.invokestatic 325, 3) := by decide +kernel
theorem dX12_sunBy_176 : decode cX12_sunBy 176 = .ok (.laload, 1) := by decide +kernel
theorem dX12_sunBy_177 : decode cX12_sunBy 177 = .ok (.lload 8, 2) := by decide +kernel
theorem dX12_sunBy_179 : decode cX12_sunBy 179 = .ok (.ladd, 1) := by decide +kernel
theorem dX12_sunBy_180 : decode cX12_sunBy 180 = .ok (.lastore, 1) := by decide +kernel
theorem dX12_sunBy_181 : decode cX12_sunBy 181 = .ok (.return_, 1) := by decide +kernel
set_option maxRecDepth 100000 in
def f_m_sunBy (x1 : Int) (x2 : Int) (x3 : Int) (V : Nat → Nat → Int) (J : Nat → Nat → Int) (Rr : Nat → Nat → Nat) : (xS) → Prop :=
  calUM 4835703278458516698824704 V (f_m_feelsState x1 x2 V J Rr) fun V1 => calVM 2417851639229258349412352 V1 (f_m_byText 0 101 9 V1 J Rr) fun z2 V2 => fct (0 ≤ z2 ∧ z2 ≤ 999) <| jnk (fun (z4 : Int) (V5 : Nat → Nat → Int) => calR (f_m_max 0 (x2 - z4)) fun z6 => jnk (fun (z9 : Int) => rdb (V5 0 33) fun z11 => fct (0 ≤ z11 ∧ z11 ≤ 3) <| rdb (V5 1 z11.toNat) fun z12 => fct (0 ≤ z12 ∧ z12 ≤ 24) <| jnk (fun (z14 : Int) => rdb (J 24 x2.toNat) fun z16 => rdb (wrJ (5 * z16)) fun z17 => rdb (V5 1 ((z11 + 8).toNat)) fun z18 => fct (0 ≤ z18 ∧ z18 ≤ 9) <| (if z18 ≤ z9 then rdb (J 0 39) fun z20 => rdb (wrJ (z20 + z17)) fun z21 => rdb (up2 J 0 39 z21) fun J22 => rtn (V5, J22, Rr) else (if z14 < z18 then calR (f_m_stateOf z6 z9 z14) fun z24 => fct (0 ≤ z24 ∧ z24 ≤ 499) <| calR (f_m_stateOf z6 z9 z14) fun z25 => fct (0 ≤ z25 ∧ z25 ≤ 499) <| rdb (J 23 z25.toNat) fun z26 => rdb (wrJ (z26 + z17)) fun z27 => rdb (up2 J 23 z24.toNat z27) fun J28 => rtn (V5, J28, Rr) else rdb (J 0 39) fun z29 => rdb (wrJ (z29 + z17)) fun z30 => rdb (up2 J 0 39 z30) fun J31 => rtn (V5, J31, Rr)))) fun jf15 => (if ¬ z6 = z12 then jf15 0 else calR (f_m_drownedIn x1) fun z33 => fct (0 ≤ z33 ∧ z33 ≤ 9) <| jf15 (z33 + 1))) fun jf10 => (if ¬ z6 = 0 then jf10 0 else calR (f_m_dryIn x1) fun z35 => fct (0 ≤ z35 ∧ z35 ≤ 9) <| jf10 (z35 + 1))) fun jf5 => (if x3 = 0 then jf5 z2 V2 else calVM 2417851639229258349412352 V2 (f_m_byText 0 104 9 V2 J Rr) fun z37 V37 => fct (0 ≤ z37 ∧ z37 ≤ 999) <| jf5 (z2 + z37) V37)
set_option maxHeartbeats 8000000 in
set_option maxRecDepth 100000 in
theorem m_sunBy (l : Launch) (D : va_G) (cy : Nat → ClassId) (ad : Nat → Nat) (G : Nat → Nat → Int) (V J : Nat → Nat → Int) (Rr : Nat → Nat → Nat) (hI : MI G V) (hJ : VJ J) (hR : MR Rr) (x1 : Int) (bx1 : 0 ≤ x1 ∧ x1 ≤ 499) (x2 : Int) (bx2 : 0 ≤ x2 ∧ x2 ≤ 24) (x3 : Int) (bx3 : 0 ≤ x3 ∧ x3 ≤ 1) (hW : WP G) : xMv l D (xTY cy) yX12_sunBy cX12_sunBy 10 none 4 86 0 0 [.ref (ad 0), vI x1, vI x2, vI x3] (MW cy ad V J Rr) (fun u : xS => MW cy ad u.1 u.2.1 u.2.2) (fun u : xS => MS G u ∧ FBm 7253554917687775048237056 V u.1 ∧ (f_m_sunBy x1 x2 x3 V J Rr) u) := by
  refine xMv.mk (lv0 := [(0, .ref (ad 0)), (1, vI x1), (2, vI x2), (3, vI x3)]) (by decide) rfl (Nat.le_of_ble_eq_true rfl) (fun p e s m below meth c A C hr hnm hAe => ?_)
  have C : xC2 p s m _ meth c D A s.heap 10 cX12_sunBy RX12 (xTY cy) := C
  have hB : FBm 7253554917687775048237056 V V := FBm.rf _ _
  have hF := Imp.of_eq (f_m_sunBy.eq_def x1 x2 x3 V J Rr)
  refine x_aload_n C.1 dX12_sunBy_0 0 rfl ?_
  refine x_iload_n C.1 dX12_sunBy_1 1 rfl ?_
  refine x_iload_n C.1 dX12_sunBy_2 2 rfl ?_
  refine x_callVv C (As := [vI x1, vI x2]) (rest := []) 0 (xw_at (N := 33) (i := 0) (by decide) rfl) vc_X12 (m_feelsState l D cy ad G V J Rr (KI.self hI) hJ hR x1 ⟨by omega, by omega⟩ x2 ⟨by omega, by omega⟩) (l1 := []) (l2 := []) (List.append_nil _).symm (w2 := fun u : Nat → Nat → Int => MW cy ad u J Rr) (fun _ => List.append_nil _) rfl wm_yX12_feelsState wn_X12 wl_X12_313 wi_yX12_feelsState we_yX12_feelsState hd_yX12_feelsState rfl ⟨Nat.le_of_ble_eq_true rfl, Nat.le_of_ble_eq_true rfl⟩ (Nat.le_of_ble_eq_true rfl) ⟨Nat.le_of_ble_eq_true rfl, Nat.le_of_ble_eq_true rfl⟩ dX12_sunBy_3 (fun V1 h1 => ?_)
  obtain ⟨hI1, hBc1, hFc1⟩ := h1
  replace hF := calUM_i hF hFc1 hBc1
  have hB1 := hB.tr hBc1 (m := 4835703278458516698824704) rfl
  have hI1c := hI1.1
  refine x_aload_n C.1 dX12_sunBy_6 0 rfl ?_
  refine x_iconst C.1 (n := 0) dX12_sunBy_7 ?_
  refine x_bipush C.1 (n := 101) dX12_sunBy_8 ?_
  refine x_bipush C.1 (n := 9) dX12_sunBy_10 ?_
  refine x_callVi C (As := [vI 0, vI 101, vI 9]) (rest := []) 0 (xw_at (N := 33) (i := 0) (by decide) rfl) vc_X12 (m_byText l D cy ad G V1 J Rr (KI.self hI1c) hJ hR 0 ⟨by decide, by decide⟩ 101 ⟨by decide, by decide⟩ 9 ⟨by decide, by decide⟩ hW) (l1 := []) (l2 := []) (List.append_nil _).symm (w2 := fun u : Nat → Nat → Int => MW cy ad u J Rr) (fun _ => List.append_nil _) rfl wm_yX12_byText wn_X12 wl_X12_256 wi_yX12_byText we_yX12_byText hd_yX12_byText rfl ⟨Nat.le_of_ble_eq_true rfl, Nat.le_of_ble_eq_true rfl⟩ (Nat.le_of_ble_eq_true rfl) ⟨Nat.le_of_ble_eq_true rfl, Nat.le_of_ble_eq_true rfl⟩ dX12_sunBy_12 (fun z2 V2 bz2 h2 => ?_)
  obtain ⟨hI2, bq2, hBc2, hFc2⟩ := h2
  replace hF := calVM_i hF hFc2 hBc2
  replace hF := hF.fc bq2
  have hB2 := hB1.tr hBc2 (m := 2417851639229258349412352) rfl
  have hI2c := hI2.1
  refine x_istore C.1 (lv' := [(4, vI z2), (0, .ref (ad 0)), (1, vI x1), (2, vI x2), (3, vI x3)]) dX12_sunBy_15 (by decide) rfl ?_
  refine x_iload_n C.1 dX12_sunBy_17 4 rfl ?_
  obtain ⟨jf5, hjf5, hF⟩ := jn_ex hF
  refine x_join (I := fun x : Int × (Nat → Nat → Int) => match x with | (z4, V5) => (0 ≤ z4 ∧ z4 ≤ 1998) ∧ MI G V5 ∧ FBm 7253554917687775048237056 V V5 ∧ Imp (jf5 z4 V5) (f_m_sunBy x1 x2 x3 V J Rr)) (wsf := fun x : Int × (Nat → Nat → Int) => match x with | (z4, V5) => MW cy ad V5 J Rr) (lvf := fun x : Int × (Nat → Nat → Int) => match x with | (z4, V5) => [(4, vI z4), (0, .ref (ad 0)), (1, vI x1), (2, vI x2), (3, vI x3)]) (stf := fun x : Int × (Nat → Nat → Int) => match x with | (z4, V5) => []) 35 (fun x hI5x => ?_) (fun jn5 => ?_)
  · obtain ⟨z4, V5⟩ := x
    obtain ⟨bz4, hI5, hB5, hF⟩ := hI5x
    try dsimp only
    replace hF := hF.to (jn_s2 hjf5)
    refine x_iconst C.1 (n := 0) dX12_sunBy_35 ?_
    refine x_iload_n C.1 dX12_sunBy_36 3 rfl ?_
    refine x_iload C.1 dX12_sunBy_37 0 rfl ?_
    refine x_isub C.1 (v := x2 - z4) (by omega) dX12_sunBy_39 ?_
    refine x_callSi C (As := [vI 0, vI (x2 - z4)]) (rest := []) (m_max l D cy 0 ⟨by decide, by decide⟩ (x2 - z4) ⟨by omega, by omega⟩) (l1 := []) (l2 := _) rfl (w2 := fun _ => _) (fun _ => rfl) rfl wm_yX12_max wn_X12 wl_X12_272 wi_yX12_max hd_yX12_max rfl ⟨Nat.le_of_ble_eq_true rfl, Nat.le_of_ble_eq_true rfl⟩ (Nat.le_of_ble_eq_true rfl) ⟨Nat.le_of_ble_eq_true rfl, Nat.le_of_ble_eq_true rfl⟩ dX12_sunBy_40 (fun z6 u6 bz6 h6 => ?_)
    obtain ⟨hx6_0, hFc6⟩ := h6
    replace hF := calR_i hF hFc6
    have bm7 : 0 ≤ z6 ∧ z6 ≤ 24 := by omega
    skip
    refine x_istore C.1 (lv' := [(5, vI z6), (4, vI z4), (0, .ref (ad 0)), (1, vI x1), (2, vI x2), (3, vI x3)]) dX12_sunBy_43 (by decide) rfl ?_
    refine x_iload C.1 dX12_sunBy_45 0 rfl ?_
    obtain ⟨jf10, hjf10, hF⟩ := jn_ex hF
    refine x_join (I := fun z9 : Int => (0 ≤ z9 ∧ z9 ≤ 10) ∧ Imp (jf10 z9) (f_m_sunBy x1 x2 x3 V J Rr)) (wsf := fun z9 : Int => MW cy ad V5 J Rr) (lvf := fun z9 : Int => [(5, vI z6), (4, vI z4), (0, .ref (ad 0)), (1, vI x1), (2, vI x2), (3, vI x3)]) (stf := fun z9 : Int => [vI z9]) 60 (fun z9 hI10x => ?_) (fun jn10 => ?_)
    · obtain ⟨bz9, hF⟩ := hI10x
      try dsimp only
      replace hF := hF.to (jn_s1 hjf10)
      refine x_istore C.1 (lv' := [(6, vI z9), (5, vI z6), (4, vI z4), (0, .ref (ad 0)), (1, vI x1), (2, vI x2), (3, vI x3)]) dX12_sunBy_60 (by decide) rfl ?_
      refine x_iload C.1 dX12_sunBy_62 1 rfl ?_
      refine x_aload_n C.1 dX12_sunBy_64 3 rfl ?_
      refine x_getA C (N := 33) (i := 0) (by decide) rfl vc_X12 wx_X12 0 (by decide) wf_X12_7 (a := 1) rfl dX12_sunBy_65 ?_
      refine x_iconst C.1 (n := 0) dX12_sunBy_68 ?_
      refine x_aload_n C.1 dX12_sunBy_69 3 rfl ?_
      obtain ⟨z11, ez11, bz11⟩ := hI5.rd 0 33 (x := 0) (y := 3) rfl
      replace hF := hF.to (rdb_e (z := z11) ez11)
      replace hF := hF.fc bz11
      refine x_getI C (N := 33) (i := 0) (by decide) rfl vc_X12 wx_X12 33 (by decide) wf_X12_298 rfl dX12_sunBy_70 (a := z11) ez11 ?_
      refine x_iadd C.1 (v := z11) (by omega) dX12_sunBy_73 ?_
      obtain ⟨z12, ez12, bz12⟩ := hI5.rd 1 z11.toNat (x := 0) (y := 24) (rgN_8 (Or.inl rfl) (by omega))
      replace hF := hF.to (rdb_e (z := z12) ez12)
      replace hF := hF.fc bz12
      refine x_iald C (N := 33) (i := 1) (q := z11) (by decide) rfl (by omega) (by decide) dX12_sunBy_74 (a := z12) ez12 ?_
      obtain ⟨jf15, hjf15, hF⟩ := jn_ex hF
      refine x_join (I := fun z14 : Int => (0 ≤ z14 ∧ z14 ≤ 10) ∧ Imp (jf15 z14) (f_m_sunBy x1 x2 x3 V J Rr)) (wsf := fun z14 : Int => MW cy ad V5 J Rr) (lvf := fun z14 : Int => [(6, vI z9), (5, vI z6), (4, vI z4), (0, .ref (ad 0)), (1, vI x1), (2, vI x2), (3, vI x3)]) (stf := fun z14 : Int => [vI z14]) 88 (fun z14 hI15x => ?_) (fun jn15 => ?_)
      · obtain ⟨bz14, hF⟩ := hI15x
        try dsimp only
        replace hF := hF.to (jn_s1 hjf15)
        refine x_istore C.1 (lv' := [(7, vI z14), (6, vI z9), (5, vI z6), (4, vI z4), (0, .ref (ad 0)), (1, vI x1), (2, vI x2), (3, vI x3)]) dX12_sunBy_88 (by decide) rfl ?_
        refine x_aload_n C.1 dX12_sunBy_90 4 rfl ?_
        refine x_getA C (N := 33) (i := 0) (by decide) rfl vc_X12 wx_X12 40 (by decide) wf_X12_81 (a := 24) rfl dX12_sunBy_91 ?_
        refine x_iload_n C.1 dX12_sunBy_94 6 rfl ?_
        obtain ⟨z16, ez16, bz16⟩ := hJ.rd 24 x2.toNat
        replace hF := hF.to (rdb_e (z := z16) ez16)
        refine x_lald C (N := 33) (i := 24) (q := x2) (by decide) rfl (by omega) (by decide) dX12_sunBy_95 (a := z16) ez16 ?_
        refine x_ldc2 C.1 (n := 5) wq_X12_319 dX12_sunBy_96 ?_
        refine x_lmul C.1 (v := 5 * z16) (by omega) dX12_sunBy_99 ?_
        refine x_wrapJg ?_
        intro z17 bz17 ew17
        replace hF := hF.to (rdb_e (z := z17) ew17.symm)
        refine x_lstore C.1 (lv' := [(8, vJ z17), (7, vI z14), (6, vI z9), (5, vI z6), (4, vI z4), (0, .ref (ad 0)), (1, vI x1), (2, vI x2), (3, vI x3)]) dX12_sunBy_100 (by decide) rfl ?_
        refine x_iload C.1 dX12_sunBy_102 2 rfl ?_
        refine x_aload_n C.1 dX12_sunBy_104 5 rfl ?_
        refine x_getA C (N := 33) (i := 0) (by decide) rfl vc_X12 wx_X12 0 (by decide) wf_X12_7 (a := 1) rfl dX12_sunBy_105 ?_
        refine x_bipush C.1 (n := 8) dX12_sunBy_108 ?_
        refine x_aload_n C.1 dX12_sunBy_110 5 rfl ?_
        refine x_getI C (N := 33) (i := 0) (by decide) rfl vc_X12 wx_X12 33 (by decide) wf_X12_298 rfl dX12_sunBy_111 (a := z11) ez11 ?_
        refine x_iadd C.1 (v := z11 + 8) (by omega) dX12_sunBy_114 ?_
        obtain ⟨z18, ez18, bz18⟩ := hI5.rd 1 ((z11 + 8).toNat) (x := 0) (y := 9) (rgN_20 (Or.inl rfl) (by omega))
        replace hF := hF.to (rdb_e (z := z18) ez18)
        replace hF := hF.fc bz18
        refine x_iald C (N := 33) (i := 1) (q := z11 + 8) (by decide) rfl (by omega) (by decide) dX12_sunBy_115 (a := z18) ez18 ?_
        refine x_icmp_ge C.1 (tgt := 136) dX12_sunBy_116 (by decide) (by omega) (by omega) (fun hc19 => ?_) (fun hc19 => ?_)
        · replace hF := hF.to (if_pos hc19)
          refine x_aload_n C.1 dX12_sunBy_136 5 rfl ?_
          refine x_aload_n C.1 dX12_sunBy_137 5 rfl ?_
          obtain ⟨z20, ez20, bz20⟩ := hJ.rd 0 39
          replace hF := hF.to (rdb_e (z := z20) ez20)
          refine x_getJ C (N := 33) (i := 0) (by decide) rfl vc_X12 wx_X12 39 (by decide) wf_X12_321 rfl dX12_sunBy_138 (a := z20) ez20 ?_
          refine x_lload C.1 dX12_sunBy_141 0 rfl ?_
          refine x_ladd C.1 (v := z20 + z17) (by omega) dX12_sunBy_143 ?_
          refine x_wrapJg ?_
          intro z21 bz21 ew21
          replace hF := hF.to (rdb_e (z := z21) ew21.symm)
          refine x_putJ C (N := 33) (i := 0) (by decide) rfl vc_X12 wx_X12 39 (by decide) wf_X12_321 tyX12 tyX12_ok nmX12 rfl (tyX12_ok 39 (by decide)) rfl dX12_sunBy_144 rfl rfl ?_
          refine x_gJ ?_
          intro J22 hJe22
          have hJ22 : VJ J22 := hJ.upS hJe22 (by omega)
          replace hF := hF.to (rdb_e (z := J22) hJe22.symm)
          refine x_goto C.1 (tgt := 181) dX12_sunBy_147 (by decide) ?_
          exact x_vret (S := xS) (post := (fun u : xS => MS G u ∧ FBm 7253554917687775048237056 V u.1 ∧ (f_m_sunBy x1 x2 x3 V J Rr) u)) (w1 := (fun u : xS => MW cy ad u.1 u.2.1 u.2.2)) C hr rfl dX12_sunBy_181 (V5, J22, Rr) rfl ⟨⟨hI5, hJ22, hR⟩, hB5, hF _ rfl⟩
        · replace hF := hF.to (if_neg hc19)
          refine x_iload C.1 dX12_sunBy_119 1 rfl ?_
          refine x_aload_n C.1 dX12_sunBy_121 5 rfl ?_
          refine x_getA C (N := 33) (i := 0) (by decide) rfl vc_X12 wx_X12 0 (by decide) wf_X12_7 (a := 1) rfl dX12_sunBy_122 ?_
          refine x_bipush C.1 (n := 8) dX12_sunBy_125 ?_
          refine x_aload_n C.1 dX12_sunBy_127 5 rfl ?_
          refine x_getI C (N := 33) (i := 0) (by decide) rfl vc_X12 wx_X12 33 (by decide) wf_X12_298 rfl dX12_sunBy_128 (a := z11) ez11 ?_
          refine x_iadd C.1 (v := z11 + 8) (by omega) dX12_sunBy_131 ?_
          refine x_iald C (N := 33) (i := 1) (q := z11 + 8) (by decide) rfl (by omega) (by decide) dX12_sunBy_132 (a := z18) ez18 ?_
          refine x_icmp_lt C.1 (tgt := 150) dX12_sunBy_133 (by decide) (by omega) (by omega) (fun hc23 => ?_) (fun hc23 => ?_)
          · replace hF := hF.to (if_pos hc23)
            refine x_aload_n C.1 dX12_sunBy_150 5 rfl ?_
            refine x_getA C (N := 33) (i := 0) (by decide) rfl vc_X12 wx_X12 38 (by decide) wf_X12_78 (a := 23) rfl dX12_sunBy_151 ?_
            refine x_iload C.1 dX12_sunBy_154 3 rfl ?_
            refine x_iload C.1 dX12_sunBy_156 2 rfl ?_
            refine x_iload C.1 dX12_sunBy_158 1 rfl ?_
            refine x_callSi C (As := [vI z6, vI z9, vI z14]) (rest := [.ref (ad 23)]) (m_stateOf l D cy z6 ⟨by omega, by omega⟩ z9 ⟨by omega, by omega⟩ z14 ⟨by omega, by omega⟩) (l1 := []) (l2 := _) rfl (w2 := fun _ => _) (fun _ => rfl) rfl wm_yX12_stateOf wn_X12 wl_X12_325 wi_yX12_stateOf hd_yX12_stateOf rfl ⟨Nat.le_of_ble_eq_true rfl, Nat.le_of_ble_eq_true rfl⟩ (Nat.le_of_ble_eq_true rfl) ⟨Nat.le_of_ble_eq_true rfl, Nat.le_of_ble_eq_true rfl⟩ dX12_sunBy_160 (fun z24 u24 bz24 h24 => ?_)
            obtain ⟨bq24, hFc24⟩ := h24
            replace hF := calR_i hF hFc24
            replace hF := hF.fc bq24
            refine x_aload_n C.1 dX12_sunBy_163 5 rfl ?_
            refine x_getA C (N := 33) (i := 0) (by decide) rfl vc_X12 wx_X12 38 (by decide) wf_X12_78 (a := 23) rfl dX12_sunBy_164 ?_
            refine x_iload C.1 dX12_sunBy_167 3 rfl ?_
            refine x_iload C.1 dX12_sunBy_169 2 rfl ?_
            refine x_iload C.1 dX12_sunBy_171 1 rfl ?_
            refine x_callSi C (As := [vI z6, vI z9, vI z14]) (rest := [.ref (ad 23), vI z24, .ref (ad 23)]) (m_stateOf l D cy z6 ⟨by omega, by omega⟩ z9 ⟨by omega, by omega⟩ z14 ⟨by omega, by omega⟩) (l1 := []) (l2 := _) rfl (w2 := fun _ => _) (fun _ => rfl) rfl wm_yX12_stateOf wn_X12 wl_X12_325 wi_yX12_stateOf hd_yX12_stateOf rfl ⟨Nat.le_of_ble_eq_true rfl, Nat.le_of_ble_eq_true rfl⟩ (Nat.le_of_ble_eq_true rfl) ⟨Nat.le_of_ble_eq_true rfl, Nat.le_of_ble_eq_true rfl⟩ dX12_sunBy_173 (fun z25 u25 bz25 h25 => ?_)
            obtain ⟨bq25, hFc25⟩ := h25
            replace hF := calR_i hF hFc25
            replace hF := hF.fc bq25
            obtain ⟨z26, ez26, bz26⟩ := hJ.rd 23 z25.toNat
            replace hF := hF.to (rdb_e (z := z26) ez26)
            refine x_lald C (N := 33) (i := 23) (q := z25) (by decide) rfl (by omega) (by decide) dX12_sunBy_176 (a := z26) ez26 ?_
            refine x_lload C.1 dX12_sunBy_177 0 rfl ?_
            refine x_ladd C.1 (v := z26 + z17) (by omega) dX12_sunBy_179 ?_
            refine x_wrapJg ?_
            intro z27 bz27 ew27
            replace hF := hF.to (rdb_e (z := z27) ew27.symm)
            refine x_last C (N := 33) (i := 23) (q := z24) (a := z27) (by decide) rfl (by omega) (by decide) dX12_sunBy_180 ?_
            refine x_gJ ?_
            intro J28 hJe28
            have hJ28 : VJ J28 := hJ.upS hJe28 (by omega)
            replace hF := hF.to (rdb_e (z := J28) hJe28.symm)
            exact x_vret (S := xS) (post := (fun u : xS => MS G u ∧ FBm 7253554917687775048237056 V u.1 ∧ (f_m_sunBy x1 x2 x3 V J Rr) u)) (w1 := (fun u : xS => MW cy ad u.1 u.2.1 u.2.2)) C hr rfl dX12_sunBy_181 (V5, J28, Rr) rfl ⟨⟨hI5, hJ28, hR⟩, hB5, hF _ rfl⟩
          · replace hF := hF.to (if_neg hc23)
            refine x_aload_n C.1 dX12_sunBy_136 5 rfl ?_
            refine x_aload_n C.1 dX12_sunBy_137 5 rfl ?_
            obtain ⟨z29, ez29, bz29⟩ := hJ.rd 0 39
            replace hF := hF.to (rdb_e (z := z29) ez29)
            refine x_getJ C (N := 33) (i := 0) (by decide) rfl vc_X12 wx_X12 39 (by decide) wf_X12_321 rfl dX12_sunBy_138 (a := z29) ez29 ?_
            refine x_lload C.1 dX12_sunBy_141 0 rfl ?_
            refine x_ladd C.1 (v := z29 + z17) (by omega) dX12_sunBy_143 ?_
            refine x_wrapJg ?_
            intro z30 bz30 ew30
            replace hF := hF.to (rdb_e (z := z30) ew30.symm)
            refine x_putJ C (N := 33) (i := 0) (by decide) rfl vc_X12 wx_X12 39 (by decide) wf_X12_321 tyX12 tyX12_ok nmX12 rfl (tyX12_ok 39 (by decide)) rfl dX12_sunBy_144 rfl rfl ?_
            refine x_gJ ?_
            intro J31 hJe31
            have hJ31 : VJ J31 := hJ.upS hJe31 (by omega)
            replace hF := hF.to (rdb_e (z := J31) hJe31.symm)
            refine x_goto C.1 (tgt := 181) dX12_sunBy_147 (by decide) ?_
            exact x_vret (S := xS) (post := (fun u : xS => MS G u ∧ FBm 7253554917687775048237056 V u.1 ∧ (f_m_sunBy x1 x2 x3 V J Rr) u)) (w1 := (fun u : xS => MW cy ad u.1 u.2.1 u.2.2)) C hr rfl dX12_sunBy_181 (V5, J31, Rr) rfl ⟨⟨hI5, hJ31, hR⟩, hB5, hF _ rfl⟩
      · refine x_icmp_ne C.1 (tgt := 87) dX12_sunBy_75 (by decide) (by omega) (by omega) (fun hc32 => ?_) (fun hc32 => ?_)
        · replace hF := hF.to (if_pos hc32)
          refine x_iconst C.1 (n := 0) dX12_sunBy_87 ?_
          exact jn15 0 ⟨⟨by decide, by decide⟩, hF⟩
        · replace hF := hF.to (if_neg (fun hh => hh hc32))
          refine x_iload_n C.1 dX12_sunBy_78 4 rfl ?_
          refine x_callSi C (As := [vI x1]) (rest := []) (m_drownedIn l D cy x1 ⟨by omega, by omega⟩) (l1 := []) (l2 := _) rfl (w2 := fun _ => _) (fun _ => rfl) rfl wm_yX12_drownedIn wn_X12 wl_X12_307 wi_yX12_drownedIn hd_yX12_drownedIn rfl ⟨Nat.le_of_ble_eq_true rfl, Nat.le_of_ble_eq_true rfl⟩ (Nat.le_of_ble_eq_true rfl) ⟨Nat.le_of_ble_eq_true rfl, Nat.le_of_ble_eq_true rfl⟩ dX12_sunBy_79 (fun z33 u33 bz33 h33 => ?_)
          obtain ⟨bq33, hFc33⟩ := h33
          replace hF := calR_i hF hFc33
          replace hF := hF.fc bq33
          refine x_iconst C.1 (n := 1) dX12_sunBy_82 ?_
          refine x_iadd C.1 (v := z33 + 1) (by omega) dX12_sunBy_83 ?_
          refine x_goto C.1 (tgt := 88) dX12_sunBy_84 (by decide) ?_
          exact jn15 (z33 + 1) ⟨⟨by omega, by omega⟩, hF⟩
    · refine x_if_ne C.1 (tgt := 59) dX12_sunBy_47 (by decide) (by omega) (fun hc34 => ?_) (fun hc34 => ?_)
      · replace hF := hF.to (if_pos hc34)
        refine x_iconst C.1 (n := 0) dX12_sunBy_59 ?_
        exact jn10 0 ⟨⟨by decide, by decide⟩, hF⟩
      · replace hF := hF.to (if_neg (fun hh => hh hc34))
        refine x_iload_n C.1 dX12_sunBy_50 3 rfl ?_
        refine x_callSi C (As := [vI x1]) (rest := []) (m_dryIn l D cy x1 ⟨by omega, by omega⟩) (l1 := []) (l2 := _) rfl (w2 := fun _ => _) (fun _ => rfl) rfl wm_yX12_dryIn wn_X12 wl_X12_304 wi_yX12_dryIn hd_yX12_dryIn rfl ⟨Nat.le_of_ble_eq_true rfl, Nat.le_of_ble_eq_true rfl⟩ (Nat.le_of_ble_eq_true rfl) ⟨Nat.le_of_ble_eq_true rfl, Nat.le_of_ble_eq_true rfl⟩ dX12_sunBy_51 (fun z35 u35 bz35 h35 => ?_)
        obtain ⟨bq35, hFc35⟩ := h35
        replace hF := calR_i hF hFc35
        replace hF := hF.fc bq35
        refine x_iconst C.1 (n := 1) dX12_sunBy_54 ?_
        refine x_iadd C.1 (v := z35 + 1) (by omega) dX12_sunBy_55 ?_
        refine x_goto C.1 (tgt := 60) dX12_sunBy_56 (by decide) ?_
        exact jn10 (z35 + 1) ⟨⟨by omega, by omega⟩, hF⟩
  · refine x_if_eq C.1 (tgt := 35) dX12_sunBy_18 (by decide) (by omega) (fun hc36 => ?_) (fun hc36 => ?_)
    · replace hF := hF.to (if_pos hc36)
      exact jn5 (z2, V2) ⟨⟨by omega, by omega⟩, hI2c, hB2, hF⟩
    · replace hF := hF.to (if_neg hc36)
      refine x_iload C.1 dX12_sunBy_21 0 rfl ?_
      refine x_aload_n C.1 dX12_sunBy_23 1 rfl ?_
      refine x_iconst C.1 (n := 0) dX12_sunBy_24 ?_
      refine x_bipush C.1 (n := 104) dX12_sunBy_25 ?_
      refine x_bipush C.1 (n := 9) dX12_sunBy_27 ?_
      refine x_callVi C (As := [vI 0, vI 104, vI 9]) (rest := [vI z2]) 0 (xw_at (N := 33) (i := 0) (by decide) rfl) vc_X12 (m_byText l D cy ad G V2 J Rr (KI.self hI2c) hJ hR 0 ⟨by decide, by decide⟩ 104 ⟨by decide, by decide⟩ 9 ⟨by decide, by decide⟩ hW) (l1 := []) (l2 := []) (List.append_nil _).symm (w2 := fun u : Nat → Nat → Int => MW cy ad u J Rr) (fun _ => List.append_nil _) rfl wm_yX12_byText wn_X12 wl_X12_256 wi_yX12_byText we_yX12_byText hd_yX12_byText rfl ⟨Nat.le_of_ble_eq_true rfl, Nat.le_of_ble_eq_true rfl⟩ (Nat.le_of_ble_eq_true rfl) ⟨Nat.le_of_ble_eq_true rfl, Nat.le_of_ble_eq_true rfl⟩ dX12_sunBy_29 (fun z37 V37 bz37 h37 => ?_)
      obtain ⟨hI37, bq37, hBc37, hFc37⟩ := h37
      replace hF := calVM_i hF hFc37 hBc37
      replace hF := hF.fc bq37
      have hB37 := hB2.tr hBc37 (m := 2417851639229258349412352) rfl
      have hI37c := hI37.1
      refine x_iadd C.1 (v := z2 + z37) (by omega) dX12_sunBy_32 ?_
      refine x_istore C.1 (lv' := [(4, vI (z2 + z37)), (0, .ref (ad 0)), (1, vI x1), (2, vI x2), (3, vI x3)]) dX12_sunBy_33 (by decide) rfl ?_
      exact jn5 (z2 + z37, V37) ⟨⟨by omega, by omega⟩, hI37c, hB37, hF⟩
theorem hd_yX12_comesBy : yX12_comesBy.cls ≠ "java/lang/invoke/MethodHandle" ∧ yX12_comesBy.cls ≠ "java/lang/invoke/VarHandle" ∧ (parseMethodDescriptor yX12_comesBy.desc).map (fun d => d.parameters.length) = some 2 := by decide +kernel
theorem hd_yX12_sunBy : yX12_sunBy.cls ≠ "java/lang/invoke/MethodHandle" ∧ yX12_sunBy.cls ≠ "java/lang/invoke/VarHandle" ∧ (parseMethodDescriptor yX12_sunBy.desc).map (fun d => d.parameters.length) = some 3 := by decide +kernel
theorem hd_yX12_tens : yX12_tens.cls ≠ "java/lang/invoke/MethodHandle" ∧ yX12_tens.cls ≠ "java/lang/invoke/VarHandle" ∧ (parseMethodDescriptor yX12_tens.desc).map (fun d => d.parameters.length) = some 1 := by decide +kernel
theorem dX12_goesThrough_0 : decode cX12_goesThrough 0 = .ok (.aload_n 0, 1) := by decide +kernel
theorem dX12_goesThrough_1 : decode cX12_goesThrough 1 = .ok (.getfield 7, 3) := by decide +kernel
theorem dX12_goesThrough_4 : decode cX12_goesThrough 4 = .ok (.bipush 79, 2) := by decide +kernel
theorem dX12_goesThrough_6 : decode cX12_goesThrough 6 = .ok (.iaload, 1) := by decide +kernel
theorem dX12_goesThrough_7 : decode cX12_goesThrough 7 = .ok (.istore_n 3, 1) := by decide +kernel
theorem dX12_goesThrough_8 : decode cX12_goesThrough 8 = .ok (.aload_n 0, 1) := by decide +kernel
theorem dX12_goesThrough_9 : decode cX12_goesThrough 9 = .ok (.lconst 0, 1) := by decide +kernel
theorem dX12_goesThrough_10 : decode cX12_goesThrough 10 = .ok (.putfield 321, 3) := by decide +kernel
theorem dX12_goesThrough_13 : decode cX12_goesThrough 13 = .ok (.iconst 0, 1) := by decide +kernel
theorem dX12_goesThrough_14 : decode cX12_goesThrough 14 = .ok (.istore 4, 2) := by decide +kernel
theorem dX12_goesThrough_16 : decode cX12_goesThrough 16 = .ok (.iload 4, 2) := by decide +kernel
theorem dX12_goesThrough_18 : decode cX12_goesThrough 18 = .ok (.sipush 500, 3) := by decide +kernel
theorem dX12_goesThrough_21 : decode cX12_goesThrough 21 = .ok (.if_icmp .ge 17, 3) := by decide +kernel
theorem dX12_goesThrough_24 : decode cX12_goesThrough 24 = .ok (.aload_n 0, 1) := by decide +kernel
theorem dX12_goesThrough_25 : decode cX12_goesThrough 25 = .ok (.getfield 74, 3) := by decide +kernel
theorem dX12_goesThrough_28 : decode cX12_goesThrough 28 = .ok (.iload 4, 2) := by decide +kernel
theorem dX12_goesThrough_30 : decode cX12_goesThrough 30 = .ok (.lconst 0, 1) := by decide +kernel
theorem dX12_goesThrough_31 : decode cX12_goesThrough 31 = .ok (.lastore, 1) := by decide +kernel
theorem dX12_goesThrough_32 : decode cX12_goesThrough 32 = .ok (.iinc 4 1, 3) := by decide +kernel
theorem dX12_goesThrough_35 : decode cX12_goesThrough 35 = .ok (.goto (-19), 3) := by decide +kernel
theorem dX12_goesThrough_38 : decode cX12_goesThrough 38 = .ok (.aload_n 0, 1) := by decide +kernel
theorem dX12_goesThrough_39 : decode cX12_goesThrough 39 = .ok (.getfield 74, 3) := by decide +kernel
theorem dX12_goesThrough_42 : decode cX12_goesThrough 42 = .ok (.aload_n 0, 1) := by decide +kernel
theorem dX12_goesThrough_43 : decode cX12_goesThrough 43 = .ok (.getfield 7, 3) := by decide +kernel
theorem dX12_goesThrough_46 : decode cX12_goesThrough 46 = .ok (.iconst 4, 1) := by decide +kernel
theorem dX12_goesThrough_47 : decode cX12_goesThrough 47 = .ok (.aload_n 0, 1) := by decide +kernel
theorem dX12_goesThrough_48 : decode cX12_goesThrough 48 = .ok (.getfield 298, 3) := by decide +kernel
theorem dX12_goesThrough_51 : decode cX12_goesThrough 51 = .ok (.iadd, 1) := by decide +kernel
theorem dX12_goesThrough_52 : decode cX12_goesThrough 52 = .ok (.iaload, 1) := by decide +kernel
theorem dX12_goesThrough_53 : decode cX12_goesThrough 53 = .ok (.aload_n 0, 1) := by decide +kernel
theorem dX12_goesThrough_54 : decode cX12_goesThrough 54 = .ok (.getfield 7, 3) := by decide +kernel
theorem dX12_goesThrough_57 : decode cX12_goesThrough 57 = .ok (.bipush 12, 2) := by decide +kernel
theorem dX12_goesThrough_59 : decode cX12_goesThrough 59 = .ok (.aload_n 0, 1) := by decide +kernel
theorem dX12_goesThrough_60 : decode cX12_goesThrough 60 = .ok (.getfield 298, 3) := by decide +kernel
theorem dX12_goesThrough_63 : decode cX12_goesThrough 63 = .ok (.iadd, 1) := by decide +kernel
theorem dX12_goesThrough_64 : decode cX12_goesThrough 64 = .ok (.iaload, 1) := by decide +kernel
theorem dX12_goesThrough_65 : decode cX12_goesThrough 65 = .ok (.aload_n 0, 1) := by decide +kernel
theorem dX12_goesThrough_66 : decode cX12_goesThrough 66 = .ok (.getfield 7, 3) := by decide +kernel
theorem dX12_goesThrough_69 : decode cX12_goesThrough 69 = .ok (.bipush 16, 2) := by decide +kernel
theorem dX12_goesThrough_71 : decode cX12_goesThrough 71 = .ok (.aload_n 0, 1) := by decide +kernel
theorem dX12_goesThrough_72 : decode cX12_goesThrough 72 = .ok (.getfield 298, 3) := by decide +kernel
theorem dX12_goesThrough_75 : decode cX12_goesThrough 75 = .ok (.iadd, 1) := by decide +kernel
theorem dX12_goesThrough_76 : decode cX12_goesThrough 76 = .ok (.iaload, 1) := by decide +kernel
theorem dX12_goesThrough_77 : decode cX12_goesThrough 77 = .ok (.invokestatic 325, 3) := by decide +kernel
theorem dX12_goesThrough_80 : decode cX12_goesThrough 80 = .ok (.lconst 1, 1) := by decide +kernel
theorem dX12_goesThrough_81 : decode cX12_goesThrough 81 = .ok (.lastore, 1) := by decide +kernel
theorem dX12_goesThrough_82 : decode cX12_goesThrough 82 = .ok (.iconst 0, 1) := by decide +kernel
theorem dX12_goesThrough_83 : decode cX12_goesThrough 83 = .ok (.istore 4, 2) := by decide +kernel
theorem dX12_goesThrough_85 : decode cX12_goesThrough 85 = .ok (.iload 4, 2) := by decide +kernel
theorem dX12_goesThrough_87 : decode cX12_goesThrough 87 = .ok (.iload_n 1, 1) := by decide +kernel
theorem dX12_goesThrough_88 : decode cX12_goesThrough 88 = .ok (.if_icmp .ge 184, 3) := by decide +kernel
theorem dX12_goesThrough_91 : decode cX12_goesThrough 91 = .ok (.aload_n 0, 1) := by decide +kernel
theorem dX12_goesThrough_92 : decode cX12_goesThrough 92 = .ok (.aload_n 0, 1) := by decide +kernel
theorem dX12_goesThrough_93 : decode cX12_goesThrough 93 = .ok (.getfield 321, 3) := by decide +kernel
theorem dX12_goesThrough_96 : decode cX12_goesThrough 96 = .ok (.iload_n 2, 1) := by decide +kernel
theorem dX12_goesThrough_97 : decode cX12_goesThrough 97 = .ok (.iconst 1, 1) := by decide +kernel
theorem dX12_goesThrough_98 : decode cX12_goesThrough 98 = .ok (.iadd, 1) := by decide +kernel
theorem dX12_goesThrough_99 : decode cX12_goesThrough 99 = .ok (.invokestatic 328, 3) := by decide +kernel
theorem dX12_goesThrough_102 : decode cX12_goesThrough 102 = .ok (.lmul, 1) := by decide +kernel
theorem dX12_goesThrough_103 : decode cX12_goesThrough 103 = .ok (.putfield 321, 3) := by decide +kernel
theorem dX12_goesThrough_106 : decode cX12_goesThrough 106 = .ok (.iconst 0, 1) := by decide +kernel
theorem dX12_goesThrough_107 : decode cX12_goesThrough 107 = .ok (.istore 5, 2) := by decide +kernel
theorem dX12_goesThrough_109 : decode cX12_goesThrough 109 = .ok (.iload 5, 2) := by decide +kernel
theorem dX12_goesThrough_111 : decode cX12_goesThrough 111 = .ok (.sipush 500, 3) := by decide +kernel
theorem dX12_goesThrough_114 : decode cX12_goesThrough 114 = .ok (.if_icmp .ge 17, 3) := by decide +kernel
theorem dX12_goesThrough_117 : decode cX12_goesThrough 117 = .ok (.aload_n 0, 1) := by decide +kernel
theorem dX12_goesThrough_118 : decode cX12_goesThrough 118 = .ok (.getfield 78, 3) := by decide +kernel
theorem dX12_goesThrough_121 : decode cX12_goesThrough 121 = .ok (.iload 5, 2) := by decide +kernel
theorem dX12_goesThrough_123 : decode cX12_goesThrough 123 = .ok (.lconst 0, 1) := by decide +kernel
theorem dX12_goesThrough_124 : decode cX12_goesThrough 124 = .ok (.lastore, 1) := by decide +kernel
theorem dX12_goesThrough_125 : decode cX12_goesThrough 125 = .ok (.iinc 5 1, 3) := by decide +kernel
theorem dX12_goesThrough_128 : decode cX12_goesThrough 128 = .ok (.goto (-19), 3) := by decide +kernel
theorem dX12_goesThrough_131 : decode cX12_goesThrough 131 = .ok (.iconst 0, 1) := by decide +kernel
theorem dX12_goesThrough_132 : decode cX12_goesThrough 132 = .ok (.istore 5, 2) := by decide +kernel
theorem dX12_goesThrough_134 : decode cX12_goesThrough 134 = .ok (.iload 5, 2) := by decide +kernel
theorem dX12_goesThrough_136 : decode cX12_goesThrough 136 = .ok (.sipush 500, 3) := by decide +kernel
theorem dX12_goesThrough_139 : decode cX12_goesThrough 139 = .ok (.if_icmp .ge 80, 3) := by decide +kernel
theorem dX12_goesThrough_142 : decode cX12_goesThrough 142 = .ok (.aload_n 0, 1) := by decide +kernel
theorem dX12_goesThrough_143 : decode cX12_goesThrough 143 = .ok (.getfield 74, 3) := by decide +kernel
theorem dX12_goesThrough_146 : decode cX12_goesThrough 146 = .ok (.iload 5, 2) := by decide +kernel
theorem dX12_goesThrough_148 : decode cX12_goesThrough 148 = .ok (.laload, 1) := by decide +kernel
theorem dX12_goesThrough_149 : decode cX12_goesThrough 149 = .ok (.lconst 0, 1) := by decide +kernel
theorem dX12_goesThrough_150 : decode cX12_goesThrough 150 = .ok (.lcmp, 1) := by decide +kernel
theorem dX12_goesThrough_151 : decode cX12_goesThrough 151 = .ok (.ifCond .ne 6, 3) := by decide +kernel
theorem dX12_goesThrough_154 : decode cX12_goesThrough 154 = .ok (.goto 59, 3) := by decide +kernel
theorem dX12_goesThrough_157 : decode cX12_goesThrough 157 = .ok (.aload_n 0, 1) := by decide +kernel
theorem dX12_goesThrough_158 : decode cX12_goesThrough 158 = .ok (.iload 5, 2) := by decide +kernel
theorem dX12_goesThrough_160 : decode cX12_goesThrough 160 = .ok (.iload_n 2, 1) := by decide +kernel
theorem dX12_goesThrough_161 : decode cX12_goesThrough 161 = .ok (.invokevirtual 332, 3) := by decide +kernel
theorem dX12_goesThrough_164 : decode cX12_goesThrough 164 = .ok (.iconst 0, 1) := by decide +kernel
theorem dX12_goesThrough_165 : decode cX12_goesThrough 165 = .ok (.istore 6, 2) := by decide +kernel
theorem dX12_goesThrough_167 : decode cX12_goesThrough 167 = .ok (.iload 6, 2) := by decide +kernel
theorem dX12_goesThrough_169 : decode cX12_goesThrough 169 = .ok (.bipush 24, 2) := by decide +kernel
theorem dX12_goesThrough_171 : decode cX12_goesThrough 171 = .ok (.if_icmp .gt 42, 3) := by decide +kernel
theorem dX12_goesThrough_174 : decode cX12_goesThrough 174 = .ok (.aload_n 0, 1) := by decide +kernel
theorem dX12_goesThrough_175 : decode cX12_goesThrough 175 = .ok (.getfield 81, 3) := by decide +kernel
theorem dX12_goesThrough_178 : decode cX12_goesThrough 178 = .ok (.iload 6, 2) := by decide +kernel
theorem dX12_goesThrough_180 : decode cX12_goesThrough 180 = .ok (.laload, 1) := by decide +kernel
theorem dX12_goesThrough_181 : decode cX12_goesThrough 181 = .ok (.lconst 0, 1) := by decide +kernel
theorem dX12_goesThrough_182 : decode cX12_goesThrough 182 = .ok (.lcmp, 1) := by decide +kernel
theorem dX12_goesThrough_183 : decode cX12_goesThrough 183 = .ok (.ifCond .ne 6, 3) := by decide +kernel
theorem dX12_goesThrough_186 : decode cX12_goesThrough 186 = .ok (.goto 21, 3) := by decide +kernel
theorem dX12_goesThrough_189 : decode cX12_goesThrough 189 = .ok (.aload_n 0, 1) := by decide +kernel
theorem dX12_goesThrough_190 : decode cX12_goesThrough 190 = .ok (.iload 5, 2) := by decide +kernel
theorem dX12_goesThrough_192 : decode cX12_goesThrough 192 = .ok (.iload 6, 2) := by decide +kernel
theorem dX12_goesThrough_194 : decode cX12_goesThrough 194 = .ok (.iconst 1, 1) := by decide +kernel
theorem dX12_goesThrough_195 : decode cX12_goesThrough 195 = .ok (.invokevirtual 335, 3) := by decide +kernel
theorem dX12_goesThrough_198 : decode cX12_goesThrough 198 = .ok (.aload_n 0, 1) := by decide +kernel
theorem dX12_goesThrough_199 : decode cX12_goesThrough 199 = .ok (.iload 5, 2) := by decide +kernel
theorem dX12_goesThrough_201 : decode cX12_goesThrough 201 = .ok (.iload 6, 2) := by decide +kernel
theorem dX12_goesThrough_203 : decode cX12_goesThrough 203 = .ok (.iconst 0, 1) := by decide +kernel
theorem dX12_goesThrough_204 : decode cX12_goesThrough 204 = .ok (.invokevirtual 335, 3) := by decide +kernel
theorem dX12_goesThrough_207 : decode cX12_goesThrough 207 = .ok (.iinc 6 1, 3) := by decide +kernel
theorem dX12_goesThrough_210 : decode cX12_goesThrough 210 = .ok (.goto (-43), 3) := by decide +kernel
theorem dX12_goesThrough_213 : decode cX12_goesThrough 213 = .ok (.iinc 5 1, 3) := by decide +kernel
theorem dX12_goesThrough_216 : decode cX12_goesThrough 216 = .ok (.goto (-82), 3) := by decide +kernel
theorem dX12_goesThrough_219 : decode cX12_goesThrough 219 = .ok (.iconst 0, 1) := by decide +kernel
theorem dX12_goesThrough_220 : decode cX12_goesThrough 220 = .ok (.istore 5, 2) := by decide +kernel
theorem dX12_goesThrough_222 : decode cX12_goesThrough 222 = .ok (.iload 5, 2) := by decide +kernel
theorem dX12_goesThrough_224 : decode cX12_goesThrough 224 = .ok (.sipush 500, 3) := by decide +kernel
theorem dX12_goesThrough_227 : decode cX12_goesThrough 227 = .ok (.if_icmp .ge 23, 3) := by decide +kernel
theorem dX12_goesThrough_230 : decode cX12_goesThrough 230 = .ok (.aload_n 0, 1) := by decide +kernel
theorem dX12_goesThrough_231 : decode cX12_goesThrough 231 = .ok (.getfield 74, 3) := by decide +kernel
theorem dX12_goesThrough_234 : decode cX12_goesThrough 234 = .ok (.iload 5, 2) := by decide +kernel
theorem dX12_goesThrough_236 : decode cX12_goesThrough 236 = .ok (.aload_n 0, 1) := by decide +kernel
theorem dX12_goesThrough_237 : decode cX12_goesThrough 237 = .ok (.getfield 78, 3) := by decide +kernel
theorem dX12_goesThrough_240 : decode cX12_goesThrough 240 = .ok (.iload 5, 2) := by decide +kernel
theorem dX12_goesThrough_242 : decode cX12_goesThrough 242 = .ok (.laload, 1) := by decide +kernel
theorem dX12_goesThrough_243 : decode cX12_goesThrough 243 = .ok (.lastore, 1) := by decide +kernel
theorem dX12_goesThrough_244 : decode cX12_goesThrough 244 = .ok (.iinc 5 1, 3) := by decide +kernel
theorem dX12_goesThrough_247 : decode cX12_goesThrough 247 = .ok (.goto (-25), 3) := by decide +kernel
theorem dX12_goesThrough_250 : decode cX12_goesThrough 250 = .ok (.aload_n 0, 1) := by decide +kernel
theorem dX12_goesThrough_251 : decode cX12_goesThrough 251 = .ok (.getfield 7, 3) := by decide +kernel
theorem dX12_goesThrough_254 : decode cX12_goesThrough 254 = .ok (.bipush 79, 2) := by decide +kernel
theorem dX12_goesThrough_256 : decode cX12_goesThrough 256 = .ok (.aload_n 0, 1) := by decide +kernel
theorem dX12_goesThrough_257 : decode cX12_goesThrough 257 = .ok (.getfield 7, 3) := by decide +kernel
theorem dX12_goesThrough_260 : decode cX12_goesThrough 260 = .ok (.bipush 79, 2) := by decide +kernel
theorem dX12_goesThrough_262 : decode cX12_goesThrough 262 = .ok (.iaload, 1) := by decide +kernel
theorem dX12_goesThrough_263 : decode cX12_goesThrough 263 = .ok (.iconst 1, 1) := by decide +kernel
theorem dX12_goesThrough_264 : decode cX12_goesThrough 264 = .ok (.iadd, 1) := by decide +kernel
theorem dX12_goesThrough_265 : decode cX12_goesThrough 265 = .ok (.iastore, 1) := by decide +kernel
theorem dX12_goesThrough_266 : decode cX12_goesThrough 266 = .ok (.iinc 4 1, 3) := by decide +kernel
theorem dX12_goesThrough_269 : decode cX12_goesThrough 269 = .ok (.goto (-184), 3) := by decide +kernel
theorem dX12_goesThrough_272 : decode cX12_goesThrough 272 = .ok (.aload_n 0, 1) := by decide +kernel
theorem dX12_goesThrough_273 : decode cX12_goesThrough 273 = .ok (.getfield 7, 3) := by decide +kernel
theorem dX12_goesThrough_276 : decode cX12_goesThrough 276 = .ok (.bipush 79, 2) := by decide +kernel
theorem dX12_goesThrough_278 : decode cX12_goesThrough 278 = .ok (.iload_n 3, 1) := by decide +kernel
theorem dX12_goesThrough_279 : decode cX12_goesThrough 279 = .ok (.iastore, 1) := by decide +kernel
theorem dX12_goesThrough_280 : decode cX12_goesThrough 280 = .ok (.iload_n 1, 1) := by decide +kernel
theorem dX12_goesThrough_281 : decode cX12_goesThrough 281 = .ok (.iload_n 2, 1) := by decide +kernel
theorem dX12_goesThrough_282 : decode cX12_goesThrough 282 = .ok (.iconst 1, 1) := by decide +kernel
theorem dX12_goesThrough_283 : decode cX12_goesThrough 283 = .ok (.iadd, 1) := by decide +kernel
theorem dX12_goesThrough_284 : decode cX12_goesThrough 284 = .ok (.imul, 1) := by decide +kernel
theorem dX12_goesThrough_285 : decode cX12_goesThrough 285 = .ok (.invokestatic 328, 3) := by decide +kernel
theorem dX12_goesThrough_288 : decode cX12_goesThrough 288 = .ok (.aload_n 0, 1) := by decide +kernel
theorem dX12_goesThrough_289 : decode cX12_goesThrough 289 = .ok (.getfield 321, 3) := by decide +kernel
theorem dX12_goesThrough_292 : decode cX12_goesThrough 292 = .ok (.lsub, 1) := by decide +kernel
theorem dX12_goesThrough_293 : decode cX12_goesThrough 293 = .ok (.lreturn, 1) := by decide +kernel
set_option maxRecDepth 100000 in
def f_m_goesThrough (x1 : Int) (x2 : Int) (V : Nat → Nat → Int) (J : Nat → Nat → Int) (Rr : Nat → Nat → Nat) : (Int × xS) → Prop :=
  rdb (V 1 79) fun z1 => rdb (up2 J 0 39 0) fun J2 => lop2 (502) (fun rc247929 (z247928 : Int) (J247929 : Nat → Nat → Int) => (if 500 ≤ z247928 then rdb (V 0 33) fun z371895 => fct (0 ≤ z371895 ∧ z371895 ≤ 3) <| rdb (V 1 ((z371895 + 4).toNat)) fun z371896 => fct (0 ≤ z371896 ∧ z371896 ≤ 24) <| rdb (V 1 ((z371895 + 12).toNat)) fun z371897 => fct (0 ≤ z371897 ∧ z371897 ≤ 9) <| rdb (V 1 ((z371895 + 16).toNat)) fun z371898 => fct (0 ≤ z371898 ∧ z371898 ≤ 9) <| calR (f_m_stateOf z371896 z371897 z371898) fun z371899 => fct (0 ≤ z371899 ∧ z371899 ≤ 499) <| rdb (up2 J247929 22 z371899.toNat 1) fun J371900 => lop4 (11) (fun rc462798 (z462797 : Int) (V462798 : Nat → Nat → Int) (J462798 : Nat → Nat → Int) (R462798 : Nat → Nat → Nat) => (if x1 ≤ z462797 then rdb (up2 V462798 1 79 z1) fun V487589 => rdb (x1 * (x2 + 1)) fun z487590 => fct (0 ≤ z487590 ∧ z487590 ≤ 36) <| calR (f_m_tens z487590) fun z487591 => fct (1 ≤ z487591 ∧ z487591 ≤ 1000000000000000000) <| rdb (J462798 0 39) fun z487592 => rdb (wrJ (z487591 - z487592)) fun z487593 => rtn (z487593, (V487589, J462798, R462798)) else rdb (J462798 0 39) fun z487594 => calR (f_m_tens (x2 + 1)) fun z487595 => fct (1 ≤ z487595 ∧ z487595 ≤ 1000000000000000000) <| rdb (wrJ (z487594 * z487595)) fun z487596 => rdb (up2 J462798 0 39 z487596) fun J487597 => lop2 (502) (fun rc491726 (z491725 : Int) (J491726 : Nat → Nat → Int) => (if 500 ≤ z491725 then lop4 (502) (fun rc495133 (z495132 : Int) (V495133 : Nat → Nat → Int) (J495133 : Nat → Nat → Int) (R495133 : Nat → Nat → Nat) => (if 500 ≤ z495132 then lop2 (502) (fun rc495681 (z495680 : Int) (J495681 : Nat → Nat → Int) => (if 500 ≤ z495680 then rdb (V495133 1 79) fun z495693 => rdb (wr (z495693 + 1)) fun z495694 => rdb (up2 V495133 1 79 z495694) fun V495695 => rc462798 (z462797 + 1) V495695 J495681 R495133 else rdb (J495681 23 z495680.toNat) fun z495696 => rdb (up2 J495681 22 z495680.toNat z495696) fun J495697 => rc495681 (z495680 + 1) J495697)) 0 J495133 else rdb (J495133 22 z495132.toNat) fun z495698 => jnk (fun (V495776 : Nat → Nat → Int) (J495776 : Nat → Nat → Int) (R495776 : Nat → Nat → Nat) => rc495133 (z495132 + 1) V495776 J495776 R495776) fun jf495776 => (if ¬ (lcI z495698 0) = 0 then calTM 7253554917687775048237056 V495133 (f_m_comesBy z495132 x2 V495133 J495133 R495133) fun V495778 J495778 R495778 => lop4 (27) (fun rc495835 (z495834 : Int) (V495835 : Nat → Nat → Int) (J495835 : Nat → Nat → Int) (R495835 : Nat → Nat → Nat) => (if 24 < z495834 then jf495776 V495835 J495835 R495835 else rdb (J495835 24 z495834.toNat) fun z495846 => jnk (fun (V495850 : Nat → Nat → Int) (J495850 : Nat → Nat → Int) (R495850 : Nat → Nat → Nat) => rc495835 (z495834 + 1) V495850 J495850 R495850) fun jf495850 => (if ¬ (lcI z495846 0) = 0 then calTM 7253554917687775048237056 V495835 (f_m_sunBy z495132 z495834 1 V495835 J495835 R495835) fun V495852 J495852 R495852 => calTM 7253554917687775048237056 V495852 (f_m_sunBy z495132 z495834 0 V495852 J495852 R495852) fun V495853 J495853 R495853 => jf495850 V495853 J495853 R495853 else jf495850 V495835 J495835 R495835))) 0 V495778 J495778 R495778 else jf495776 V495133 J495133 R495133))) 0 V462798 J491726 R462798 else rdb (up2 J491726 23 z491725.toNat 0) fun J495854 => rc491726 (z491725 + 1) J495854)) 0 J487597)) 0 V J371900 Rr else rdb (up2 J247929 22 z247928.toNat 0) fun J495855 => rc247929 (z247928 + 1) J495855)) 0 J2
set_option maxHeartbeats 8000000 in
set_option maxRecDepth 100000 in
theorem m_goesThrough (l : Launch) (D : va_G) (cy : Nat → ClassId) (ad : Nat → Nat) (G : Nat → Nat → Int) (V J : Nat → Nat → Int) (Rr : Nat → Nat → Nat) (hI : MI G V) (hJ : VJ J) (hR : MR Rr) (x1 : Int) (bx1 : 1 ≤ x1 ∧ x1 ≤ 9) (x2 : Int) (bx2 : 0 ≤ x2 ∧ x2 ≤ 3) (hW : WP G) (hnm : x1 * (x2 + 1) ≤ 18) : xMl l D (xTY cy) yX12_goesThrough cX12_goesThrough 7 (some .long) 6 134 0 0 [.ref (ad 0), vI x1, vI x2] (MW cy ad V J Rr) (fun u : xS => MW cy ad u.1 u.2.1 u.2.2) (fun a (u : xS) => MS G u ∧ FBm 7253591811175922467340288 V u.1 ∧ (f_m_goesThrough x1 x2 V J Rr) (a, u)) := by
  refine xMl.mk (lv0 := [(0, .ref (ad 0)), (1, vI x1), (2, vI x2)]) (by decide) rfl (Nat.le_of_ble_eq_true rfl) (fun p e s m below meth c A C hr hnm hAe => ?_)
  have C : xC2 p s m _ meth c D A s.heap 7 cX12_goesThrough RX12 (xTY cy) := C
  have hB : FBm 7253591811175922467340288 V V := FBm.rf _ _
  have hF := Imp.of_eq (f_m_goesThrough.eq_def x1 x2 V J Rr)
  refine x_aload_n C.1 dX12_goesThrough_0 0 rfl ?_
  refine x_getA C (N := 33) (i := 0) (by decide) rfl vc_X12 wx_X12 0 (by decide) wf_X12_7 (a := 1) rfl dX12_goesThrough_1 ?_
  refine x_bipush C.1 (n := 79) dX12_goesThrough_4 ?_
  obtain ⟨z1, ez1, bz1⟩ := hI.rd 1 79 (x := -2147483648) (y := 2147483647) (rgN_81 (Or.inl rfl) (by decide))
  replace hF := hF.to (rdb_e (z := z1) ez1)
  refine x_iald C (N := 33) (i := 1) (q := 79) (by decide) rfl (by decide) (by decide) dX12_goesThrough_6 (a := z1) ez1 ?_
  refine x_istore_n C.1 (lv' := [(3, vI z1), (0, .ref (ad 0)), (1, vI x1), (2, vI x2)]) dX12_goesThrough_7 (by decide) rfl ?_
  refine x_aload_n C.1 dX12_goesThrough_8 1 rfl ?_
  refine x_lconst0 C.1 dX12_goesThrough_9 ?_
  refine x_putJ C (N := 33) (i := 0) (by decide) rfl vc_X12 wx_X12 39 (by decide) wf_X12_321 tyX12 tyX12_ok nmX12 rfl (tyX12_ok 39 (by decide)) rfl dX12_goesThrough_10 rfl rfl ?_
  refine x_gJ ?_
  intro J2 hJe2
  have hJ2 : VJ J2 := hJ.upS hJe2 (by decide)
  replace hF := hF.to (rdb_e (z := J2) hJe2.symm)
  refine x_iconst C.1 (n := 0) dX12_goesThrough_13 ?_
  refine x_istore C.1 (lv' := [(4, vI 0), (3, vI z1), (0, .ref (ad 0)), (1, vI x1), (2, vI x2)]) dX12_goesThrough_14 (by decide) rfl ?_
  obtain ⟨bd247929, hbd247929, hF⟩ := lop2_ex hF
  refine x_loop (I := fun x : Int × (Nat → Nat → Int) => match x with | (z247928, J247929) => (0 ≤ z247928 ∧ z247928 ≤ 500) ∧ VJ J247929 ∧ (∃ nf : Nat, (501 - z247928).toNat < nf ∧ Imp (lop2 nf bd247929 z247928 J247929) (f_m_goesThrough x1 x2 V J Rr))) (μ := fun x : Int × (Nat → Nat → Int) => match x with | (z247928, J247929) => (501 - z247928).toNat) (wsf := fun x : Int × (Nat → Nat → Int) => match x with | (z247928, J247929) => MW cy ad V J247929 Rr) (lvf := fun x : Int × (Nat → Nat → Int) => match x with | (z247928, J247929) => [(4, vI z247928), (3, vI z1), (0, .ref (ad 0)), (1, vI x1), (2, vI x2)]) (fun x hI247929x ih247929 => ?_) (0, J2) ⟨⟨by decide, by decide⟩, hJ2, ⟨_, (by omega), hF⟩⟩ rfl rfl
  obtain ⟨z247928, J247929⟩ := x
  obtain ⟨bz247928, hJ247929, nf247929, hn247929, hF⟩ := hI247929x
  try dsimp only
  obtain ⟨nf247929, rfl⟩ : ∃ mm, nf247929 = mm + 1 := ⟨nf247929 - 1, (Nat.succ_pred_eq_of_pos (Nat.lt_of_le_of_lt (Nat.zero_le _) hn247929)).symm⟩
  replace hF := hF.to (lop2_s hbd247929)
  refine x_iload C.1 dX12_goesThrough_16 0 rfl ?_
  refine x_sipush C.1 (n := 500) dX12_goesThrough_18 ?_
  refine x_icmp_ge C.1 (tgt := 38) dX12_goesThrough_21 (by decide) (by omega) (by decide) (fun hc371894 => ?_) (fun hc371894 => ?_)
  · replace hF := hF.to (if_pos hc371894)
    refine x_aload_n C.1 dX12_goesThrough_38 2 rfl ?_
    refine x_getA C (N := 33) (i := 0) (by decide) rfl vc_X12 wx_X12 37 (by decide) wf_X12_74 (a := 22) rfl dX12_goesThrough_39 ?_
    refine x_aload_n C.1 dX12_goesThrough_42 2 rfl ?_
    refine x_getA C (N := 33) (i := 0) (by decide) rfl vc_X12 wx_X12 0 (by decide) wf_X12_7 (a := 1) rfl dX12_goesThrough_43 ?_
    refine x_iconst C.1 (n := 4) dX12_goesThrough_46 ?_
    refine x_aload_n C.1 dX12_goesThrough_47 2 rfl ?_
    obtain ⟨z371895, ez371895, bz371895⟩ := hI.rd 0 33 (x := 0) (y := 3) rfl
    replace hF := hF.to (rdb_e (z := z371895) ez371895)
    replace hF := hF.fc bz371895
    refine x_getI C (N := 33) (i := 0) (by decide) rfl vc_X12 wx_X12 33 (by decide) wf_X12_298 rfl dX12_goesThrough_48 (a := z371895) ez371895 ?_
    refine x_iadd C.1 (v := z371895 + 4) (by omega) dX12_goesThrough_51 ?_
    obtain ⟨z371896, ez371896, bz371896⟩ := hI.rd 1 ((z371895 + 4).toNat) (x := 0) (y := 24) (rgN_8 (Or.inl rfl) (by omega))
    replace hF := hF.to (rdb_e (z := z371896) ez371896)
    replace hF := hF.fc bz371896
    refine x_iald C (N := 33) (i := 1) (q := z371895 + 4) (by decide) rfl (by omega) (by decide) dX12_goesThrough_52 (a := z371896) ez371896 ?_
    refine x_aload_n C.1 dX12_goesThrough_53 2 rfl ?_
    refine x_getA C (N := 33) (i := 0) (by decide) rfl vc_X12 wx_X12 0 (by decide) wf_X12_7 (a := 1) rfl dX12_goesThrough_54 ?_
    refine x_bipush C.1 (n := 12) dX12_goesThrough_57 ?_
    refine x_aload_n C.1 dX12_goesThrough_59 2 rfl ?_
    refine x_getI C (N := 33) (i := 0) (by decide) rfl vc_X12 wx_X12 33 (by decide) wf_X12_298 rfl dX12_goesThrough_60 (a := z371895) ez371895 ?_
    refine x_iadd C.1 (v := z371895 + 12) (by omega) dX12_goesThrough_63 ?_
    obtain ⟨z371897, ez371897, bz371897⟩ := hI.rd 1 ((z371895 + 12).toNat) (x := 0) (y := 9) (rgN_20 (Or.inl rfl) (by omega))
    replace hF := hF.to (rdb_e (z := z371897) ez371897)
    replace hF := hF.fc bz371897
    refine x_iald C (N := 33) (i := 1) (q := z371895 + 12) (by decide) rfl (by omega) (by decide) dX12_goesThrough_64 (a := z371897) ez371897 ?_
    refine x_aload_n C.1 dX12_goesThrough_65 2 rfl ?_
    refine x_getA C (N := 33) (i := 0) (by decide) rfl vc_X12 wx_X12 0 (by decide) wf_X12_7 (a := 1) rfl dX12_goesThrough_66 ?_
    refine x_bipush C.1 (n := 16) dX12_goesThrough_69 ?_
    refine x_aload_n C.1 dX12_goesThrough_71 2 rfl ?_
    refine x_getI C (N := 33) (i := 0) (by decide) rfl vc_X12 wx_X12 33 (by decide) wf_X12_298 rfl dX12_goesThrough_72 (a := z371895) ez371895 ?_
    refine x_iadd C.1 (v := z371895 + 16) (by omega) dX12_goesThrough_75 ?_
    obtain ⟨z371898, ez371898, bz371898⟩ := hI.rd 1 ((z371895 + 16).toNat) (x := 0) (y := 9) (rgN_20 (Or.inl rfl) (by omega))
    replace hF := hF.to (rdb_e (z := z371898) ez371898)
    replace hF := hF.fc bz371898
    refine x_iald C (N := 33) (i := 1) (q := z371895 + 16) (by decide) rfl (by omega) (by decide) dX12_goesThrough_76 (a := z371898) ez371898 ?_
    refine x_callSi C (As := [vI z371896, vI z371897, vI z371898]) (rest := [.ref (ad 22)]) (m_stateOf l D cy z371896 ⟨by omega, by omega⟩ z371897 ⟨by omega, by omega⟩ z371898 ⟨by omega, by omega⟩) (l1 := []) (l2 := _) rfl (w2 := fun _ => _) (fun _ => rfl) rfl wm_yX12_stateOf wn_X12 wl_X12_325 wi_yX12_stateOf hd_yX12_stateOf rfl ⟨Nat.le_of_ble_eq_true rfl, Nat.le_of_ble_eq_true rfl⟩ (Nat.le_of_ble_eq_true rfl) ⟨Nat.le_of_ble_eq_true rfl, Nat.le_of_ble_eq_true rfl⟩ dX12_goesThrough_77 (fun z371899 u371899 bz371899 h371899 => ?_)
    obtain ⟨bq371899, hFc371899⟩ := h371899
    replace hF := calR_i hF hFc371899
    replace hF := hF.fc bq371899
    refine x_lconst1 C.1 dX12_goesThrough_80 ?_
    refine x_last C (N := 33) (i := 22) (q := z371899) (a := 1) (by decide) rfl (by omega) (by decide) dX12_goesThrough_81 ?_
    refine x_gJ ?_
    intro J371900 hJe371900
    have hJ371900 : VJ J371900 := hJ247929.upS hJe371900 (by decide)
    replace hF := hF.to (rdb_e (z := J371900) hJe371900.symm)
    refine x_iconst C.1 (n := 0) dX12_goesThrough_82 ?_
    refine x_istore C.1 (lv' := [(4, vI 0), (3, vI z1), (0, .ref (ad 0)), (1, vI x1), (2, vI x2)]) dX12_goesThrough_83 (by decide) rfl ?_
    obtain ⟨bd462798, hbd462798, hF⟩ := lop4_ex hF
    refine x_loop (I := fun x : Int × (Nat → Nat → Int) × (Nat → Nat → Int) × (Nat → Nat → Nat) => match x with | (z462797, V462798, J462798, R462798) => (0 ≤ z462797 ∧ z462797 ≤ 9) ∧ MI G V462798 ∧ FBm 7253591811175922467340288 V V462798 ∧ VJ J462798 ∧ MR R462798 ∧ (∃ nf : Nat, (10 - z462797).toNat < nf ∧ Imp (lop4 nf bd462798 z462797 V462798 J462798 R462798) (f_m_goesThrough x1 x2 V J Rr))) (μ := fun x : Int × (Nat → Nat → Int) × (Nat → Nat → Int) × (Nat → Nat → Nat) => match x with | (z462797, V462798, J462798, R462798) => (10 - z462797).toNat) (wsf := fun x : Int × (Nat → Nat → Int) × (Nat → Nat → Int) × (Nat → Nat → Nat) => match x with | (z462797, V462798, J462798, R462798) => MW cy ad V462798 J462798 R462798) (lvf := fun x : Int × (Nat → Nat → Int) × (Nat → Nat → Int) × (Nat → Nat → Nat) => match x with | (z462797, V462798, J462798, R462798) => [(4, vI z462797), (3, vI z1), (0, .ref (ad 0)), (1, vI x1), (2, vI x2)]) (fun x hI462798x ih462798 => ?_) (0, V, J371900, Rr) ⟨⟨by decide, by decide⟩, hI, hB, hJ371900, hR, ⟨_, (by omega), hF⟩⟩ rfl rfl
    obtain ⟨z462797, V462798, J462798, R462798⟩ := x
    obtain ⟨bz462797, hI462798, hB462798, hJ462798, hR462798, nf462798, hn462798, hF⟩ := hI462798x
    try dsimp only
    obtain ⟨nf462798, rfl⟩ : ∃ mm, nf462798 = mm + 1 := ⟨nf462798 - 1, (Nat.succ_pred_eq_of_pos (Nat.lt_of_le_of_lt (Nat.zero_le _) hn462798)).symm⟩
    replace hF := hF.to (lop4_s hbd462798)
    refine x_iload C.1 dX12_goesThrough_85 0 rfl ?_
    refine x_iload_n C.1 dX12_goesThrough_87 3 rfl ?_
    refine x_icmp_ge C.1 (tgt := 272) dX12_goesThrough_88 (by decide) (by omega) (by omega) (fun hc487588 => ?_) (fun hc487588 => ?_)
    · replace hF := hF.to (if_pos hc487588)
      refine x_aload_n C.1 dX12_goesThrough_272 2 rfl ?_
      refine x_getA C (N := 33) (i := 0) (by decide) rfl vc_X12 wx_X12 0 (by decide) wf_X12_7 (a := 1) rfl dX12_goesThrough_273 ?_
      refine x_bipush C.1 (n := 79) dX12_goesThrough_276 ?_
      refine x_iload_n C.1 dX12_goesThrough_278 1 rfl ?_
      refine x_iast C (N := 33) (i := 1) (q := 79) (a := z1) (by decide) rfl (by decide) (by decide) dX12_goesThrough_279 ?_
      rw [show (79 : Int).toNat = 79 from rfl]
      refine x_gV ?_
      intro V487589 hV487589
      have hI487589 : MI G V487589 := hI462798.up hV487589 (rgN_81 (Or.inl rfl) (by decide)) (by omega) rfl (Or.inr (by decide))
      have hB487589 := hB462798.up hV487589 (by rw [mkey_r (by decide)]; rfl)
      replace hF := hF.to (rdb_e (z := V487589) hV487589.symm)
      refine x_iload_n C.1 dX12_goesThrough_280 3 rfl ?_
      refine x_iload_n C.1 dX12_goesThrough_281 4 rfl ?_
      refine x_iconst C.1 (n := 1) dX12_goesThrough_282 ?_
      refine x_iadd C.1 (v := x2 + 1) (by omega) dX12_goesThrough_283 ?_
      obtain ⟨z487590, hz487590, bz487590⟩ := mulB (x := x1) (y := x2 + 1) (A := 9) (B := 4) (by omega) (by omega)
      replace hF := hF.to (rdb_e (z := z487590) hz487590)
      replace hF := hF.fc bz487590
      refine x_imul C.1 (v := z487590) hz487590 dX12_goesThrough_284 ?_
      refine x_callSl C (As := [vI z487590]) (rest := []) (m_tens l D cy z487590 ⟨by omega, by omega⟩) (l1 := []) (l2 := _) rfl (w2 := fun _ => _) (fun _ => rfl) rfl wm_yX12_tens wn_X12 wl_X12_328 wi_yX12_tens hd_yX12_tens rfl ⟨Nat.le_of_ble_eq_true rfl, Nat.le_of_ble_eq_true rfl⟩ (Nat.le_of_ble_eq_true rfl) ⟨Nat.le_of_ble_eq_true rfl, Nat.le_of_ble_eq_true rfl⟩ dX12_goesThrough_285 (fun z487591 u487591 bz487591 h487591 => ?_)
      obtain ⟨bq487591, hFc487591⟩ := h487591
      replace hF := calR_i hF hFc487591
      replace hF := hF.fc bq487591
      refine x_aload_n C.1 dX12_goesThrough_288 2 rfl ?_
      obtain ⟨z487592, ez487592, bz487592⟩ := hJ462798.rd 0 39
      replace hF := hF.to (rdb_e (z := z487592) ez487592)
      refine x_getJ C (N := 33) (i := 0) (by decide) rfl vc_X12 wx_X12 39 (by decide) wf_X12_321 rfl dX12_goesThrough_289 (a := z487592) ez487592 ?_
      refine x_lsub C.1 (v := z487591 - z487592) (by omega) dX12_goesThrough_292 ?_
      refine x_wrapJg ?_
      intro z487593 bz487593 ew487593
      replace hF := hF.to (rdb_e (z := z487593) ew487593.symm)
      exact x_lret (S := xS) (post := (fun a (u : xS) => MS G u ∧ FBm 7253591811175922467340288 V u.1 ∧ (f_m_goesThrough x1 x2 V J Rr) (a, u))) (w1 := (fun u : xS => MW cy ad u.1 u.2.1 u.2.2)) (a := z487593) C hr rfl dX12_goesThrough_293 (by omega) (V487589, J462798, R462798) rfl ⟨⟨hI487589, hJ462798, hR462798⟩, hB487589, hF _ rfl⟩
    · replace hF := hF.to (if_neg hc487588)
      refine x_aload_n C.1 dX12_goesThrough_91 2 rfl ?_
      refine x_aload_n C.1 dX12_goesThrough_92 2 rfl ?_
      obtain ⟨z487594, ez487594, bz487594⟩ := hJ462798.rd 0 39
      replace hF := hF.to (rdb_e (z := z487594) ez487594)
      refine x_getJ C (N := 33) (i := 0) (by decide) rfl vc_X12 wx_X12 39 (by decide) wf_X12_321 rfl dX12_goesThrough_93 (a := z487594) ez487594 ?_
      refine x_iload_n C.1 dX12_goesThrough_96 4 rfl ?_
      refine x_iconst C.1 (n := 1) dX12_goesThrough_97 ?_
      refine x_iadd C.1 (v := x2 + 1) (by omega) dX12_goesThrough_98 ?_
      refine x_callSl C (As := [vI (x2 + 1)]) (rest := [vJ z487594, .ref (ad 0)]) (m_tens l D cy (x2 + 1) ⟨by omega, by omega⟩) (l1 := []) (l2 := _) rfl (w2 := fun _ => _) (fun _ => rfl) rfl wm_yX12_tens wn_X12 wl_X12_328 wi_yX12_tens hd_yX12_tens rfl ⟨Nat.le_of_ble_eq_true rfl, Nat.le_of_ble_eq_true rfl⟩ (Nat.le_of_ble_eq_true rfl) ⟨Nat.le_of_ble_eq_true rfl, Nat.le_of_ble_eq_true rfl⟩ dX12_goesThrough_99 (fun z487595 u487595 bz487595 h487595 => ?_)
      obtain ⟨bq487595, hFc487595⟩ := h487595
      replace hF := calR_i hF hFc487595
      replace hF := hF.fc bq487595
      refine x_lmul C.1 rfl dX12_goesThrough_102 ?_
      refine x_wrapJg ?_
      intro z487596 bz487596 ew487596
      replace hF := hF.to (rdb_e (z := z487596) ew487596.symm)
      refine x_putJ C (N := 33) (i := 0) (by decide) rfl vc_X12 wx_X12 39 (by decide) wf_X12_321 tyX12 tyX12_ok nmX12 rfl (tyX12_ok 39 (by decide)) rfl dX12_goesThrough_103 rfl rfl ?_
      refine x_gJ ?_
      intro J487597 hJe487597
      have hJ487597 : VJ J487597 := hJ462798.upS hJe487597 (by omega)
      replace hF := hF.to (rdb_e (z := J487597) hJe487597.symm)
      refine x_iconst C.1 (n := 0) dX12_goesThrough_106 ?_
      refine x_istore C.1 (lv' := [(5, vI 0), (4, vI z462797), (3, vI z1), (0, .ref (ad 0)), (1, vI x1), (2, vI x2)]) dX12_goesThrough_107 (by decide) rfl ?_
      obtain ⟨bd491726, hbd491726, hF⟩ := lop2_ex hF
      refine x_loop (I := fun x : Int × (Nat → Nat → Int) => match x with | (z491725, J491726) => (0 ≤ z491725 ∧ z491725 ≤ 500) ∧ VJ J491726 ∧ (∃ nf : Nat, (501 - z491725).toNat < nf ∧ Imp (lop2 nf bd491726 z491725 J491726) (f_m_goesThrough x1 x2 V J Rr))) (μ := fun x : Int × (Nat → Nat → Int) => match x with | (z491725, J491726) => (501 - z491725).toNat) (wsf := fun x : Int × (Nat → Nat → Int) => match x with | (z491725, J491726) => MW cy ad V462798 J491726 R462798) (lvf := fun x : Int × (Nat → Nat → Int) => match x with | (z491725, J491726) => [(5, vI z491725), (4, vI z462797), (3, vI z1), (0, .ref (ad 0)), (1, vI x1), (2, vI x2)]) (fun x hI491726x ih491726 => ?_) (0, J487597) ⟨⟨by decide, by decide⟩, hJ487597, ⟨_, (by omega), hF⟩⟩ rfl rfl
      obtain ⟨z491725, J491726⟩ := x
      obtain ⟨bz491725, hJ491726, nf491726, hn491726, hF⟩ := hI491726x
      try dsimp only
      obtain ⟨nf491726, rfl⟩ : ∃ mm, nf491726 = mm + 1 := ⟨nf491726 - 1, (Nat.succ_pred_eq_of_pos (Nat.lt_of_le_of_lt (Nat.zero_le _) hn491726)).symm⟩
      replace hF := hF.to (lop2_s hbd491726)
      refine x_iload C.1 dX12_goesThrough_109 0 rfl ?_
      refine x_sipush C.1 (n := 500) dX12_goesThrough_111 ?_
      refine x_icmp_ge C.1 (tgt := 131) dX12_goesThrough_114 (by decide) (by omega) (by decide) (fun hc493792 => ?_) (fun hc493792 => ?_)
      · replace hF := hF.to (if_pos hc493792)
        refine x_iconst C.1 (n := 0) dX12_goesThrough_131 ?_
        refine x_istore C.1 (lv' := [(5, vI 0), (4, vI z462797), (3, vI z1), (0, .ref (ad 0)), (1, vI x1), (2, vI x2)]) dX12_goesThrough_132 (by decide) rfl ?_
        obtain ⟨bd495133, hbd495133, hF⟩ := lop4_ex hF
        refine x_loop (I := fun x : Int × (Nat → Nat → Int) × (Nat → Nat → Int) × (Nat → Nat → Nat) => match x with | (z495132, V495133, J495133, R495133) => (0 ≤ z495132 ∧ z495132 ≤ 500) ∧ MI G V495133 ∧ FBm 7253591811175922467340288 V V495133 ∧ VJ J495133 ∧ MR R495133 ∧ (∃ nf : Nat, (501 - z495132).toNat < nf ∧ Imp (lop4 nf bd495133 z495132 V495133 J495133 R495133) (f_m_goesThrough x1 x2 V J Rr))) (μ := fun x : Int × (Nat → Nat → Int) × (Nat → Nat → Int) × (Nat → Nat → Nat) => match x with | (z495132, V495133, J495133, R495133) => (501 - z495132).toNat) (wsf := fun x : Int × (Nat → Nat → Int) × (Nat → Nat → Int) × (Nat → Nat → Nat) => match x with | (z495132, V495133, J495133, R495133) => MW cy ad V495133 J495133 R495133) (lvf := fun x : Int × (Nat → Nat → Int) × (Nat → Nat → Int) × (Nat → Nat → Nat) => match x with | (z495132, V495133, J495133, R495133) => [(5, vI z495132), (4, vI z462797), (3, vI z1), (0, .ref (ad 0)), (1, vI x1), (2, vI x2)]) (fun x hI495133x ih495133 => ?_) (0, V462798, J491726, R462798) ⟨⟨by decide, by decide⟩, hI462798, hB462798, hJ491726, hR462798, ⟨_, (by omega), hF⟩⟩ rfl rfl
        obtain ⟨z495132, V495133, J495133, R495133⟩ := x
        obtain ⟨bz495132, hI495133, hB495133, hJ495133, hR495133, nf495133, hn495133, hF⟩ := hI495133x
        try dsimp only
        obtain ⟨nf495133, rfl⟩ : ∃ mm, nf495133 = mm + 1 := ⟨nf495133 - 1, (Nat.succ_pred_eq_of_pos (Nat.lt_of_le_of_lt (Nat.zero_le _) hn495133)).symm⟩
        replace hF := hF.to (lop4_s hbd495133)
        refine x_iload C.1 dX12_goesThrough_134 0 rfl ?_
        refine x_sipush C.1 (n := 500) dX12_goesThrough_136 ?_
        refine x_icmp_ge C.1 (tgt := 219) dX12_goesThrough_139 (by decide) (by omega) (by decide) (fun hc495650 => ?_) (fun hc495650 => ?_)
        · replace hF := hF.to (if_pos hc495650)
          refine x_iconst C.1 (n := 0) dX12_goesThrough_219 ?_
          refine x_istore C.1 (lv' := [(5, vI 0), (4, vI z462797), (3, vI z1), (0, .ref (ad 0)), (1, vI x1), (2, vI x2)]) dX12_goesThrough_220 (by decide) rfl ?_
          obtain ⟨bd495681, hbd495681, hF⟩ := lop2_ex hF
          refine x_loop (I := fun x : Int × (Nat → Nat → Int) => match x with | (z495680, J495681) => (0 ≤ z495680 ∧ z495680 ≤ 500) ∧ VJ J495681 ∧ (∃ nf : Nat, (501 - z495680).toNat < nf ∧ Imp (lop2 nf bd495681 z495680 J495681) (f_m_goesThrough x1 x2 V J Rr))) (μ := fun x : Int × (Nat → Nat → Int) => match x with | (z495680, J495681) => (501 - z495680).toNat) (wsf := fun x : Int × (Nat → Nat → Int) => match x with | (z495680, J495681) => MW cy ad V495133 J495681 R495133) (lvf := fun x : Int × (Nat → Nat → Int) => match x with | (z495680, J495681) => [(5, vI z495680), (4, vI z462797), (3, vI z1), (0, .ref (ad 0)), (1, vI x1), (2, vI x2)]) (fun x hI495681x ih495681 => ?_) (0, J495133) ⟨⟨by decide, by decide⟩, hJ495133, ⟨_, (by omega), hF⟩⟩ rfl rfl
          obtain ⟨z495680, J495681⟩ := x
          obtain ⟨bz495680, hJ495681, nf495681, hn495681, hF⟩ := hI495681x
          try dsimp only
          obtain ⟨nf495681, rfl⟩ : ∃ mm, nf495681 = mm + 1 := ⟨nf495681 - 1, (Nat.succ_pred_eq_of_pos (Nat.lt_of_le_of_lt (Nat.zero_le _) hn495681)).symm⟩
          replace hF := hF.to (lop2_s hbd495681)
          refine x_iload C.1 dX12_goesThrough_222 0 rfl ?_
          refine x_sipush C.1 (n := 500) dX12_goesThrough_224 ?_
          refine x_icmp_ge C.1 (tgt := 250) dX12_goesThrough_227 (by decide) (by omega) (by decide) (fun hc495692 => ?_) (fun hc495692 => ?_)
          · replace hF := hF.to (if_pos hc495692)
            refine x_aload_n C.1 dX12_goesThrough_250 3 rfl ?_
            refine x_getA C (N := 33) (i := 0) (by decide) rfl vc_X12 wx_X12 0 (by decide) wf_X12_7 (a := 1) rfl dX12_goesThrough_251 ?_
            refine x_bipush C.1 (n := 79) dX12_goesThrough_254 ?_
            refine x_aload_n C.1 dX12_goesThrough_256 3 rfl ?_
            refine x_getA C (N := 33) (i := 0) (by decide) rfl vc_X12 wx_X12 0 (by decide) wf_X12_7 (a := 1) rfl dX12_goesThrough_257 ?_
            refine x_bipush C.1 (n := 79) dX12_goesThrough_260 ?_
            obtain ⟨z495693, ez495693, bz495693⟩ := hI495133.rd 1 79 (x := -2147483648) (y := 2147483647) (rgN_81 (Or.inl rfl) (by decide))
            replace hF := hF.to (rdb_e (z := z495693) ez495693)
            refine x_iald C (N := 33) (i := 1) (q := 79) (by decide) rfl (by decide) (by decide) dX12_goesThrough_262 (a := z495693) ez495693 ?_
            refine x_iconst C.1 (n := 1) dX12_goesThrough_263 ?_
            refine x_iadd C.1 (v := z495693 + 1) (by omega) dX12_goesThrough_264 ?_
            refine x_wrapg ?_
            intro z495694 bz495694 ew495694
            replace hF := hF.to (rdb_e (z := z495694) ew495694.symm)
            refine x_iast C (N := 33) (i := 1) (q := 79) (a := z495694) (by decide) rfl (by decide) (by decide) dX12_goesThrough_265 ?_
            rw [show (79 : Int).toNat = 79 from rfl]
            refine x_gV ?_
            intro V495695 hV495695
            have hI495695 : MI G V495695 := hI495133.up hV495695 (rgN_81 (Or.inl rfl) (by decide)) (by omega) rfl (Or.inr (by decide))
            have hB495695 := hB495133.up hV495695 (by rw [mkey_r (by decide)]; rfl)
            replace hF := hF.to (rdb_e (z := V495695) hV495695.symm)
            refine x_iinc C.1 (v := z462797 + 1) (lv' := [(4, vI (z462797 + 1)), (5, vI z495680), (3, vI z1), (0, .ref (ad 0)), (1, vI x1), (2, vI x2)]) (by omega) dX12_goesThrough_266 1 rfl (by decide) rfl ?_
            refine x_goto C.1 (tgt := 85) dX12_goesThrough_269 (by decide) ?_
            refine x_lv [(4, vI (z462797 + 1)), (3, vI z1), (0, .ref (ad 0)), (1, vI x1), (2, vI x2)] [0, 2, 3, 4, 5] rfl ?_
            have hmu462798 : (10 - (z462797 + 1)).toNat < (10 - z462797).toNat := (by omega)
            exact ih462798 (z462797 + 1, V495695, J495681, R495133) ⟨⟨by omega, by omega⟩, hI495695, hB495695, hJ495681, hR495133, ⟨nf462798, Nat.lt_of_lt_of_le hmu462798 (Nat.le_of_lt_succ hn462798), hF⟩⟩ hmu462798
          · replace hF := hF.to (if_neg hc495692)
            refine x_aload_n C.1 dX12_goesThrough_230 3 rfl ?_
            refine x_getA C (N := 33) (i := 0) (by decide) rfl vc_X12 wx_X12 37 (by decide) wf_X12_74 (a := 22) rfl dX12_goesThrough_231 ?_
            refine x_iload C.1 dX12_goesThrough_234 0 rfl ?_
            refine x_aload_n C.1 dX12_goesThrough_236 3 rfl ?_
            refine x_getA C (N := 33) (i := 0) (by decide) rfl vc_X12 wx_X12 38 (by decide) wf_X12_78 (a := 23) rfl dX12_goesThrough_237 ?_
            refine x_iload C.1 dX12_goesThrough_240 0 rfl ?_
            obtain ⟨z495696, ez495696, bz495696⟩ := hJ495681.rd 23 z495680.toNat
            replace hF := hF.to (rdb_e (z := z495696) ez495696)
            refine x_lald C (N := 33) (i := 23) (q := z495680) (by decide) rfl (by omega) (by decide) dX12_goesThrough_242 (a := z495696) ez495696 ?_
            refine x_last C (N := 33) (i := 22) (q := z495680) (a := z495696) (by decide) rfl (by omega) (by decide) dX12_goesThrough_243 ?_
            refine x_gJ ?_
            intro J495697 hJe495697
            have hJ495697 : VJ J495697 := hJ495681.upS hJe495697 (by omega)
            replace hF := hF.to (rdb_e (z := J495697) hJe495697.symm)
            refine x_iinc C.1 (v := z495680 + 1) (lv' := [(5, vI (z495680 + 1)), (4, vI z462797), (3, vI z1), (0, .ref (ad 0)), (1, vI x1), (2, vI x2)]) (by omega) dX12_goesThrough_244 0 rfl (by decide) rfl ?_
            refine x_goto C.1 (tgt := 222) dX12_goesThrough_247 (by decide) ?_
            have hmu495681 : (501 - (z495680 + 1)).toNat < (501 - z495680).toNat := (by omega)
            exact ih495681 (z495680 + 1, J495697) ⟨⟨by omega, by omega⟩, hJ495697, ⟨nf495681, Nat.lt_of_lt_of_le hmu495681 (Nat.le_of_lt_succ hn495681), hF⟩⟩ hmu495681
        · replace hF := hF.to (if_neg hc495650)
          refine x_aload_n C.1 dX12_goesThrough_142 3 rfl ?_
          refine x_getA C (N := 33) (i := 0) (by decide) rfl vc_X12 wx_X12 37 (by decide) wf_X12_74 (a := 22) rfl dX12_goesThrough_143 ?_
          refine x_iload C.1 dX12_goesThrough_146 0 rfl ?_
          obtain ⟨z495698, ez495698, bz495698⟩ := hJ495133.rd 22 z495132.toNat
          replace hF := hF.to (rdb_e (z := z495698) ez495698)
          refine x_lald C (N := 33) (i := 22) (q := z495132) (by decide) rfl (by omega) (by decide) dX12_goesThrough_148 (a := z495698) ez495698 ?_
          refine x_lconst0 C.1 dX12_goesThrough_149 ?_
          refine x_lcmp C.1 rfl dX12_goesThrough_150 (by omega) (by decide) ?_
          have bz495699 := lcI_r2 z495698 0
          obtain ⟨jf495776, hjf495776, hF⟩ := jn_ex hF
          refine x_join (I := fun x : (Nat → Nat → Int) × (Nat → Nat → Int) × (Nat → Nat → Nat) => match x with | (V495776, J495776, R495776) => MI G V495776 ∧ FBm 7253591811175922467340288 V V495776 ∧ VJ J495776 ∧ MR R495776 ∧ Imp (jf495776 V495776 J495776 R495776) (f_m_goesThrough x1 x2 V J Rr)) (wsf := fun x : (Nat → Nat → Int) × (Nat → Nat → Int) × (Nat → Nat → Nat) => match x with | (V495776, J495776, R495776) => MW cy ad V495776 J495776 R495776) (lvf := fun x : (Nat → Nat → Int) × (Nat → Nat → Int) × (Nat → Nat → Nat) => match x with | (V495776, J495776, R495776) => [(5, vI z495132), (4, vI z462797), (3, vI z1), (0, .ref (ad 0)), (1, vI x1), (2, vI x2)]) (stf := fun x : (Nat → Nat → Int) × (Nat → Nat → Int) × (Nat → Nat → Nat) => match x with | (V495776, J495776, R495776) => []) 213 (fun x hI495776x => ?_) (fun jn495776 => ?_)
          · obtain ⟨V495776, J495776, R495776⟩ := x
            obtain ⟨hI495776, hB495776, hJ495776, hR495776, hF⟩ := hI495776x
            try dsimp only
            replace hF := hF.to (jn_s3 hjf495776)
            refine x_iinc C.1 (v := z495132 + 1) (lv' := [(5, vI (z495132 + 1)), (4, vI z462797), (3, vI z1), (0, .ref (ad 0)), (1, vI x1), (2, vI x2)]) (by omega) dX12_goesThrough_213 0 rfl (by decide) rfl ?_
            refine x_goto C.1 (tgt := 134) dX12_goesThrough_216 (by decide) ?_
            have hmu495133 : (501 - (z495132 + 1)).toNat < (501 - z495132).toNat := (by omega)
            exact ih495133 (z495132 + 1, V495776, J495776, R495776) ⟨⟨by omega, by omega⟩, hI495776, hB495776, hJ495776, hR495776, ⟨nf495133, Nat.lt_of_lt_of_le hmu495133 (Nat.le_of_lt_succ hn495133), hF⟩⟩ hmu495133
          · refine x_if_ne C.1 (tgt := 157) dX12_goesThrough_151 (by decide) (by omega) (fun hc495777 => ?_) (fun hc495777 => ?_)
            · replace hF := hF.to (if_pos hc495777)
              rw [lcI_eq] at hc495777
              refine x_aload_n C.1 dX12_goesThrough_157 3 rfl ?_
              refine x_iload C.1 dX12_goesThrough_158 0 rfl ?_
              refine x_iload_n C.1 dX12_goesThrough_160 5 rfl ?_
              refine x_callVv C (As := [vI z495132, vI x2]) (rest := []) 0 (xw_at (N := 33) (i := 0) (by decide) rfl) vc_X12 (m_comesBy l D cy ad G V495133 J495133 R495133 hI495133 hJ495133 hR495133 z495132 ⟨by omega, by omega⟩ x2 ⟨by omega, by omega⟩ hW) (l1 := []) (l2 := []) (List.append_nil _).symm (w2 := fun u : xS => MW cy ad u.1 u.2.1 u.2.2) (fun _ => List.append_nil _) rfl wm_yX12_comesBy wn_X12 wl_X12_332 wi_yX12_comesBy we_yX12_comesBy hd_yX12_comesBy rfl ⟨Nat.le_of_ble_eq_true rfl, Nat.le_of_ble_eq_true rfl⟩ (Nat.le_of_ble_eq_true rfl) ⟨Nat.le_of_ble_eq_true rfl, Nat.le_of_ble_eq_true rfl⟩ dX12_goesThrough_161 (fun u495778 h495778 => ?_)
              obtain ⟨V495778, J495778, R495778⟩ := u495778
              obtain ⟨hS495778, hBc495778, hFc495778⟩ := h495778
              replace hF := calTM_i hF hFc495778 hBc495778
              have hB495778 := hB495133.tr hBc495778 (m := 7253554917687775048237056) rfl
              obtain ⟨hI495778, hJ495778, hR495778⟩ := hS495778
              dsimp only at hI495778 hJ495778 hR495778 ⊢
              refine x_iconst C.1 (n := 0) dX12_goesThrough_164 ?_
              refine x_istore C.1 (lv' := [(6, vI 0), (5, vI z495132), (4, vI z462797), (3, vI z1), (0, .ref (ad 0)), (1, vI x1), (2, vI x2)]) dX12_goesThrough_165 (by decide) rfl ?_
              obtain ⟨bd495835, hbd495835, hF⟩ := lop4_ex hF
              refine x_loop (I := fun x : Int × (Nat → Nat → Int) × (Nat → Nat → Int) × (Nat → Nat → Nat) => match x with | (z495834, V495835, J495835, R495835) => (0 ≤ z495834 ∧ z495834 ≤ 25) ∧ MI G V495835 ∧ FBm 7253591811175922467340288 V V495835 ∧ VJ J495835 ∧ MR R495835 ∧ (∃ nf : Nat, (26 - z495834).toNat < nf ∧ Imp (lop4 nf bd495835 z495834 V495835 J495835 R495835) (f_m_goesThrough x1 x2 V J Rr))) (μ := fun x : Int × (Nat → Nat → Int) × (Nat → Nat → Int) × (Nat → Nat → Nat) => match x with | (z495834, V495835, J495835, R495835) => (26 - z495834).toNat) (wsf := fun x : Int × (Nat → Nat → Int) × (Nat → Nat → Int) × (Nat → Nat → Nat) => match x with | (z495834, V495835, J495835, R495835) => MW cy ad V495835 J495835 R495835) (lvf := fun x : Int × (Nat → Nat → Int) × (Nat → Nat → Int) × (Nat → Nat → Nat) => match x with | (z495834, V495835, J495835, R495835) => [(6, vI z495834), (5, vI z495132), (4, vI z462797), (3, vI z1), (0, .ref (ad 0)), (1, vI x1), (2, vI x2)]) (fun x hI495835x ih495835 => ?_) (0, V495778, J495778, R495778) ⟨⟨by decide, by decide⟩, hI495778, hB495778, hJ495778, hR495778, ⟨_, (by omega), hF⟩⟩ rfl rfl
              obtain ⟨z495834, V495835, J495835, R495835⟩ := x
              obtain ⟨bz495834, hI495835, hB495835, hJ495835, hR495835, nf495835, hn495835, hF⟩ := hI495835x
              try dsimp only
              obtain ⟨nf495835, rfl⟩ : ∃ mm, nf495835 = mm + 1 := ⟨nf495835 - 1, (Nat.succ_pred_eq_of_pos (Nat.lt_of_le_of_lt (Nat.zero_le _) hn495835)).symm⟩
              replace hF := hF.to (lop4_s hbd495835)
              refine x_iload C.1 dX12_goesThrough_167 0 rfl ?_
              refine x_bipush C.1 (n := 24) dX12_goesThrough_169 ?_
              refine x_icmp_gt C.1 (tgt := 213) dX12_goesThrough_171 (by decide) (by omega) (by decide) (fun hc495845 => ?_) (fun hc495845 => ?_)
              · replace hF := hF.to (if_pos hc495845)
                refine x_lv [(5, vI z495132), (4, vI z462797), (3, vI z1), (0, .ref (ad 0)), (1, vI x1), (2, vI x2)] [1, 2, 3, 4, 5, 6] rfl ?_
                exact jn495776 (V495835, J495835, R495835) ⟨hI495835, hB495835, hJ495835, hR495835, hF⟩
              · replace hF := hF.to (if_neg hc495845)
                refine x_aload_n C.1 dX12_goesThrough_174 4 rfl ?_
                refine x_getA C (N := 33) (i := 0) (by decide) rfl vc_X12 wx_X12 40 (by decide) wf_X12_81 (a := 24) rfl dX12_goesThrough_175 ?_
                refine x_iload C.1 dX12_goesThrough_178 0 rfl ?_
                obtain ⟨z495846, ez495846, bz495846⟩ := hJ495835.rd 24 z495834.toNat
                replace hF := hF.to (rdb_e (z := z495846) ez495846)
                refine x_lald C (N := 33) (i := 24) (q := z495834) (by decide) rfl (by omega) (by decide) dX12_goesThrough_180 (a := z495846) ez495846 ?_
                refine x_lconst0 C.1 dX12_goesThrough_181 ?_
                refine x_lcmp C.1 rfl dX12_goesThrough_182 (by omega) (by decide) ?_
                have bz495847 := lcI_r2 z495846 0
                obtain ⟨jf495850, hjf495850, hF⟩ := jn_ex hF
                refine x_join (I := fun x : (Nat → Nat → Int) × (Nat → Nat → Int) × (Nat → Nat → Nat) => match x with | (V495850, J495850, R495850) => MI G V495850 ∧ FBm 7253591811175922467340288 V V495850 ∧ VJ J495850 ∧ MR R495850 ∧ Imp (jf495850 V495850 J495850 R495850) (f_m_goesThrough x1 x2 V J Rr)) (wsf := fun x : (Nat → Nat → Int) × (Nat → Nat → Int) × (Nat → Nat → Nat) => match x with | (V495850, J495850, R495850) => MW cy ad V495850 J495850 R495850) (lvf := fun x : (Nat → Nat → Int) × (Nat → Nat → Int) × (Nat → Nat → Nat) => match x with | (V495850, J495850, R495850) => [(6, vI z495834), (5, vI z495132), (4, vI z462797), (3, vI z1), (0, .ref (ad 0)), (1, vI x1), (2, vI x2)]) (stf := fun x : (Nat → Nat → Int) × (Nat → Nat → Int) × (Nat → Nat → Nat) => match x with | (V495850, J495850, R495850) => []) 207 (fun x hI495850x => ?_) (fun jn495850 => ?_)
                · obtain ⟨V495850, J495850, R495850⟩ := x
                  obtain ⟨hI495850, hB495850, hJ495850, hR495850, hF⟩ := hI495850x
                  try dsimp only
                  replace hF := hF.to (jn_s3 hjf495850)
                  refine x_iinc C.1 (v := z495834 + 1) (lv' := [(6, vI (z495834 + 1)), (5, vI z495132), (4, vI z462797), (3, vI z1), (0, .ref (ad 0)), (1, vI x1), (2, vI x2)]) (by omega) dX12_goesThrough_207 0 rfl (by decide) rfl ?_
                  refine x_goto C.1 (tgt := 167) dX12_goesThrough_210 (by decide) ?_
                  have hmu495835 : (26 - (z495834 + 1)).toNat < (26 - z495834).toNat := (by omega)
                  exact ih495835 (z495834 + 1, V495850, J495850, R495850) ⟨⟨by omega, by omega⟩, hI495850, hB495850, hJ495850, hR495850, ⟨nf495835, Nat.lt_of_lt_of_le hmu495835 (Nat.le_of_lt_succ hn495835), hF⟩⟩ hmu495835
                · refine x_if_ne C.1 (tgt := 189) dX12_goesThrough_183 (by decide) (by omega) (fun hc495851 => ?_) (fun hc495851 => ?_)
                  · replace hF := hF.to (if_pos hc495851)
                    rw [lcI_eq] at hc495851
                    refine x_aload_n C.1 dX12_goesThrough_189 4 rfl ?_
                    refine x_iload C.1 dX12_goesThrough_190 1 rfl ?_
                    refine x_iload C.1 dX12_goesThrough_192 0 rfl ?_
                    refine x_iconst C.1 (n := 1) dX12_goesThrough_194 ?_
                    refine x_callVv C (As := [vI z495132, vI z495834, vI 1]) (rest := []) 0 (xw_at (N := 33) (i := 0) (by decide) rfl) vc_X12 (m_sunBy l D cy ad G V495835 J495835 R495835 hI495835 hJ495835 hR495835 z495132 ⟨by omega, by omega⟩ z495834 ⟨by omega, by omega⟩ 1 ⟨by decide, by decide⟩ hW) (l1 := []) (l2 := []) (List.append_nil _).symm (w2 := fun u : xS => MW cy ad u.1 u.2.1 u.2.2) (fun _ => List.append_nil _) rfl wm_yX12_sunBy wn_X12 wl_X12_335 wi_yX12_sunBy we_yX12_sunBy hd_yX12_sunBy rfl ⟨Nat.le_of_ble_eq_true rfl, Nat.le_of_ble_eq_true rfl⟩ (Nat.le_of_ble_eq_true rfl) ⟨Nat.le_of_ble_eq_true rfl, Nat.le_of_ble_eq_true rfl⟩ dX12_goesThrough_195 (fun u495852 h495852 => ?_)
                    obtain ⟨V495852, J495852, R495852⟩ := u495852
                    obtain ⟨hS495852, hBc495852, hFc495852⟩ := h495852
                    replace hF := calTM_i hF hFc495852 hBc495852
                    have hB495852 := hB495835.tr hBc495852 (m := 7253554917687775048237056) rfl
                    obtain ⟨hI495852, hJ495852, hR495852⟩ := hS495852
                    dsimp only at hI495852 hJ495852 hR495852 ⊢
                    refine x_aload_n C.1 dX12_goesThrough_198 4 rfl ?_
                    refine x_iload C.1 dX12_goesThrough_199 1 rfl ?_
                    refine x_iload C.1 dX12_goesThrough_201 0 rfl ?_
                    refine x_iconst C.1 (n := 0) dX12_goesThrough_203 ?_
                    refine x_callVv C (As := [vI z495132, vI z495834, vI 0]) (rest := []) 0 (xw_at (N := 33) (i := 0) (by decide) rfl) vc_X12 (m_sunBy l D cy ad G V495852 J495852 R495852 hI495852 hJ495852 hR495852 z495132 ⟨by omega, by omega⟩ z495834 ⟨by omega, by omega⟩ 0 ⟨by decide, by decide⟩ hW) (l1 := []) (l2 := []) (List.append_nil _).symm (w2 := fun u : xS => MW cy ad u.1 u.2.1 u.2.2) (fun _ => List.append_nil _) rfl wm_yX12_sunBy wn_X12 wl_X12_335 wi_yX12_sunBy we_yX12_sunBy hd_yX12_sunBy rfl ⟨Nat.le_of_ble_eq_true rfl, Nat.le_of_ble_eq_true rfl⟩ (Nat.le_of_ble_eq_true rfl) ⟨Nat.le_of_ble_eq_true rfl, Nat.le_of_ble_eq_true rfl⟩ dX12_goesThrough_204 (fun u495853 h495853 => ?_)
                    obtain ⟨V495853, J495853, R495853⟩ := u495853
                    obtain ⟨hS495853, hBc495853, hFc495853⟩ := h495853
                    replace hF := calTM_i hF hFc495853 hBc495853
                    have hB495853 := hB495852.tr hBc495853 (m := 7253554917687775048237056) rfl
                    obtain ⟨hI495853, hJ495853, hR495853⟩ := hS495853
                    dsimp only at hI495853 hJ495853 hR495853 ⊢
                    exact jn495850 (V495853, J495853, R495853) ⟨hI495853, hB495853, hJ495853, hR495853, hF⟩
                  · replace hF := hF.to (if_neg (fun hh => hh hc495851))
                    rw [lcI_eq] at hc495851
                    refine x_goto C.1 (tgt := 207) dX12_goesThrough_186 (by decide) ?_
                    exact jn495850 (V495835, J495835, R495835) ⟨hI495835, hB495835, hJ495835, hR495835, hF⟩
            · replace hF := hF.to (if_neg (fun hh => hh hc495777))
              rw [lcI_eq] at hc495777
              refine x_goto C.1 (tgt := 213) dX12_goesThrough_154 (by decide) ?_
              exact jn495776 (V495133, J495133, R495133) ⟨hI495133, hB495133, hJ495133, hR495133, hF⟩
      · replace hF := hF.to (if_neg hc493792)
        refine x_aload_n C.1 dX12_goesThrough_117 3 rfl ?_
        refine x_getA C (N := 33) (i := 0) (by decide) rfl vc_X12 wx_X12 38 (by decide) wf_X12_78 (a := 23) rfl dX12_goesThrough_118 ?_
        refine x_iload C.1 dX12_goesThrough_121 0 rfl ?_
        refine x_lconst0 C.1 dX12_goesThrough_123 ?_
        refine x_last C (N := 33) (i := 23) (q := z491725) (a := 0) (by decide) rfl (by omega) (by decide) dX12_goesThrough_124 ?_
        refine x_gJ ?_
        intro J495854 hJe495854
        have hJ495854 : VJ J495854 := hJ491726.upS hJe495854 (by decide)
        replace hF := hF.to (rdb_e (z := J495854) hJe495854.symm)
        refine x_iinc C.1 (v := z491725 + 1) (lv' := [(5, vI (z491725 + 1)), (4, vI z462797), (3, vI z1), (0, .ref (ad 0)), (1, vI x1), (2, vI x2)]) (by omega) dX12_goesThrough_125 0 rfl (by decide) rfl ?_
        refine x_goto C.1 (tgt := 109) dX12_goesThrough_128 (by decide) ?_
        have hmu491726 : (501 - (z491725 + 1)).toNat < (501 - z491725).toNat := (by omega)
        exact ih491726 (z491725 + 1, J495854) ⟨⟨by omega, by omega⟩, hJ495854, ⟨nf491726, Nat.lt_of_lt_of_le hmu491726 (Nat.le_of_lt_succ hn491726), hF⟩⟩ hmu491726
  · replace hF := hF.to (if_neg hc371894)
    refine x_aload_n C.1 dX12_goesThrough_24 2 rfl ?_
    refine x_getA C (N := 33) (i := 0) (by decide) rfl vc_X12 wx_X12 37 (by decide) wf_X12_74 (a := 22) rfl dX12_goesThrough_25 ?_
    refine x_iload C.1 dX12_goesThrough_28 0 rfl ?_
    refine x_lconst0 C.1 dX12_goesThrough_30 ?_
    refine x_last C (N := 33) (i := 22) (q := z247928) (a := 0) (by decide) rfl (by omega) (by decide) dX12_goesThrough_31 ?_
    refine x_gJ ?_
    intro J495855 hJe495855
    have hJ495855 : VJ J495855 := hJ247929.upS hJe495855 (by decide)
    replace hF := hF.to (rdb_e (z := J495855) hJe495855.symm)
    refine x_iinc C.1 (v := z247928 + 1) (lv' := [(4, vI (z247928 + 1)), (3, vI z1), (0, .ref (ad 0)), (1, vI x1), (2, vI x2)]) (by omega) dX12_goesThrough_32 0 rfl (by decide) rfl ?_
    refine x_goto C.1 (tgt := 16) dX12_goesThrough_35 (by decide) ?_
    have hmu247929 : (501 - (z247928 + 1)).toNat < (501 - z247928).toNat := (by omega)
    exact ih247929 (z247928 + 1, J495855) ⟨⟨by omega, by omega⟩, hJ495855, ⟨nf247929, Nat.lt_of_lt_of_le hmu247929 (Nat.le_of_lt_succ hn247929), hF⟩⟩ hmu247929
