section
theorem hd_yX12_isClause : yX12_isClause.cls ≠ "java/lang/invoke/MethodHandle" ∧ yX12_isClause.cls ≠ "java/lang/invoke/VarHandle" ∧ (parseMethodDescriptor yX12_isClause.desc).map (fun d => d.parameters.length) = some 2 := by decide +kernel
theorem hd_yX12_readsCondition : yX12_readsCondition.cls ≠ "java/lang/invoke/MethodHandle" ∧ yX12_readsCondition.cls ≠ "java/lang/invoke/VarHandle" ∧ (parseMethodDescriptor yX12_readsCondition.desc).map (fun d => d.parameters.length) = some 0 := by decide +kernel
theorem dX12_readsClause_0 : decode cX12_readsClause 0 = .ok (.aload_n 0, 1) := by decide +kernel
theorem dX12_readsClause_1 : decode cX12_readsClause 1 = .ok (.invokevirtual 150, 3) := by decide +kernel
theorem dX12_readsClause_4 : decode cX12_readsClause 4 = .ok (.istore_n 2, 1) := by decide +kernel
theorem dX12_readsClause_5 : decode cX12_readsClause 5 = .ok (.iload_n 2, 1) := by decide +kernel
theorem dX12_readsClause_6 : decode cX12_readsClause 6 = .ok (.iload_n 1, 1) := by decide +kernel
theorem dX12_readsClause_7 : decode cX12_readsClause 7 = .ok (.invokestatic 222, 3) := by decide +kernel
theorem dX12_readsClause_10 : decode cX12_readsClause 10 = .ok (.ifCond .ne 13, 3) := by decide +kernel
theorem dX12_readsClause_13 : decode cX12_readsClause 13 = .ok (.aload_n 0, 1) := by decide +kernel
theorem dX12_readsClause_14 : decode cX12_readsClause 14 = .ok (.iconst 1, 1) := by decide +kernel
theorem dX12_readsClause_15 : decode cX12_readsClause 15 = .ok (.aload_n 0, 1) := by decide +kernel
theorem dX12_readsClause_16 : decode cX12_readsClause 16 = .ok (.getfield 144, 3) := by decide +kernel
theorem dX12_readsClause_19 : decode cX12_readsClause 19 = .ok (.invokevirtual 157, 3) := by decide +kernel
theorem dX12_readsClause_22 : decode cX12_readsClause 22 = .ok (.ireturn, 1) := by decide +kernel
theorem dX12_readsClause_23 : decode cX12_readsClause 23 = .ok (.aload_n 0, 1) := by decide +kernel
theorem dX12_readsClause_24 : decode cX12_readsClause 24 = .ok (.getfield 225, 3) := by decide +kernel
theorem dX12_readsClause_27 : decode cX12_readsClause 27 = .ok (.bipush 14, 2) := by decide +kernel
theorem dX12_readsClause_29 : decode cX12_readsClause 29 = .ok (.if_icmp .ne 13, 3) := by decide +kernel
theorem dX12_readsClause_32 : decode cX12_readsClause 32 = .ok (.aload_n 0, 1) := by decide +kernel
theorem dX12_readsClause_33 : decode cX12_readsClause 33 = .ok (.iconst 4, 1) := by decide +kernel
theorem dX12_readsClause_34 : decode cX12_readsClause 34 = .ok (.aload_n 0, 1) := by decide +kernel
theorem dX12_readsClause_35 : decode cX12_readsClause 35 = .ok (.getfield 144, 3) := by decide +kernel
theorem dX12_readsClause_38 : decode cX12_readsClause 38 = .ok (.invokevirtual 157, 3) := by decide +kernel
theorem dX12_readsClause_41 : decode cX12_readsClause 41 = .ok (.ireturn, 1) := by decide +kernel
theorem dX12_readsClause_42 : decode cX12_readsClause 42 = .ok (.aload_n 0, 1) := by decide +kernel
theorem dX12_readsClause_43 : decode cX12_readsClause 43 = .ok (.getfield 29, 3) := by decide +kernel
theorem dX12_readsClause_46 : decode cX12_readsClause 46 = .ok (.aload_n 0, 1) := by decide +kernel
theorem dX12_readsClause_47 : decode cX12_readsClause 47 = .ok (.getfield 225, 3) := by decide +kernel
theorem dX12_readsClause_50 : decode cX12_readsClause 50 = .ok (.iload_n 2, 1) := by decide +kernel
theorem dX12_readsClause_51 : decode cX12_readsClause 51 = .ok (.iastore, 1) := by decide +kernel
theorem dX12_readsClause_52 : decode cX12_readsClause 52 = .ok (.aload_n 0, 1) := by decide +kernel
theorem dX12_readsClause_53 : decode cX12_readsClause 53 = .ok (.aload_n 0, 1) := by decide +kernel
theorem dX12_readsClause_54 : decode cX12_readsClause 54 = .ok (.getfield 144, 3) := by decide +kernel
theorem dX12_readsClause_57 : decode cX12_readsClause 57 = .ok (.iconst 1, 1) := by decide +kernel
theorem dX12_readsClause_58 : decode cX12_readsClause 58 = .ok (.iadd, 1) := by decide +kernel
theorem dX12_readsClause_59 : decode cX12_readsClause 59 = .ok (.putfield 144, 3) := by decide +kernel
theorem dX12_readsClause_62 : decode cX12_readsClause 62 = .ok (.aload_n 0, 1) := by decide +kernel
theorem dX12_readsClause_63 : decode cX12_readsClause 63 = .ok (.getfield 32, 3) := by decide +kernel
theorem dX12_readsClause_66 : decode cX12_readsClause 66 = .ok (.aload_n 0, 1) := by decide +kernel
theorem dX12_readsClause_67 : decode cX12_readsClause 67 = .ok (.getfield 225, 3) := by decide +kernel
theorem dX12_readsClause_70 : decode cX12_readsClause 70 = .ok (.aload_n 0, 1) := by decide +kernel
theorem dX12_readsClause_71 : decode cX12_readsClause 71 = .ok (.getfield 167, 3) := by decide +kernel
theorem dX12_readsClause_74 : decode cX12_readsClause 74 = .ok (.iastore, 1) := by decide +kernel
theorem dX12_readsClause_75 : decode cX12_readsClause 75 = .ok (.aload_n 0, 1) := by decide +kernel
theorem dX12_readsClause_76 : decode cX12_readsClause 76 = .ok (.iconst 0, 1) := by decide +kernel
theorem dX12_readsClause_77 : decode cX12_readsClause 77 = .ok (.putfield 171, 3) := by decide +kernel
theorem dX12_readsClause_80 : decode cX12_readsClause 80 = .ok (.aload_n 0, 1) := by decide +kernel
theorem dX12_readsClause_81 : decode cX12_readsClause 81 = .ok (.iconst 0, 1) := by decide +kernel
theorem dX12_readsClause_82 : decode cX12_readsClause 82 = .ok (.putfield 174, 3) := by decide +kernel
theorem dX12_readsClause_85 : decode cX12_readsClause 85 = .ok (.aload_n 0, 1) := by decide +kernel
theorem dX12_readsClause_86 : decode cX12_readsClause 86 = .ok (.invokevirtual 207, 3) := by decide +kernel
theorem dX12_readsClause_89 : decode cX12_readsClause 89 = .ok (.ifCond .ne 5, 3) := by decide +kernel
theorem dX12_readsClause_92 : decode cX12_readsClause 92 = .ok (.iconst 0, 1) := by decide +kernel
theorem dX12_readsClause_93 : decode cX12_readsClause 93 = .ok (.ireturn, 1) := by decide +kernel
theorem dX12_readsClause_94 : decode cX12_readsClause 94 = .ok (.aload_n 0, 1) := by decide +kernel
theorem dX12_readsClause_95 : decode cX12_readsClause 95 = .ok (.getfield 35, 3) := by decide +kernel
theorem dX12_readsClause_98 : decode cX12_readsClause 98 = .ok (.aload_n 0, 1) := by decide +kernel
theorem dX12_readsClause_99 : decode cX12_readsClause 99 = .ok (.getfield 225, 3) := by decide +kernel
theorem dX12_readsClause_102 : decode cX12_readsClause 102 = .ok (.aload_n 0, 1) := by decide +kernel
theorem dX12_readsClause_103 : decode cX12_readsClause 103 = .ok (.getfield 167, 3) := by decide +kernel
theorem dX12_readsClause_106 : decode cX12_readsClause 106 = .ok (.iastore, 1) := by decide +kernel
theorem dX12_readsClause_107 : decode cX12_readsClause 107 = .ok (.aload_n 0, 1) := by decide +kernel
theorem dX12_readsClause_108 : decode cX12_readsClause 108 = .ok (.invokevirtual 228, 3) := by decide +kernel
theorem dX12_readsClause_111 : decode cX12_readsClause 111 = .ok (.ifCond .ne 5, 3) := by decide +kernel
theorem dX12_readsClause_114 : decode cX12_readsClause 114 = .ok (.iconst 0, 1) := by decide +kernel
theorem dX12_readsClause_115 : decode cX12_readsClause 115 = .ok (.ireturn, 1) := by decide +kernel
theorem dX12_readsClause_116 : decode cX12_readsClause 116 = .ok (.aload_n 0, 1) := by decide +kernel
theorem dX12_readsClause_117 : decode cX12_readsClause 117 = .ok (.getfield 38, 3) := by decide +kernel
theorem dX12_readsClause_120 : decode cX12_readsClause 120 = .ok (.aload_n 0, 1) := by decide +kernel
theorem dX12_readsClause_121 : decode cX12_readsClause 121 = .ok (.getfield 225, 3) := by decide +kernel
theorem dX12_readsClause_124 : decode cX12_readsClause 124 = .ok (.aload_n 0, 1) := by decide +kernel
theorem dX12_readsClause_125 : decode cX12_readsClause 125 = .ok (.getfield 167, 3) := by decide +kernel
theorem dX12_readsClause_128 : decode cX12_readsClause 128 = .ok (.iastore, 1) := by decide +kernel
theorem dX12_readsClause_129 : decode cX12_readsClause 129 = .ok (.aload_n 0, 1) := by decide +kernel
theorem dX12_readsClause_130 : decode cX12_readsClause 130 = .ok (.aload_n 0, 1) := by decide +kernel
theorem dX12_readsClause_131 : decode cX12_readsClause 131 = .ok (.getfield 225, 3) := by decide +kernel
theorem dX12_readsClause_134 : decode cX12_readsClause 134 = .ok (.iconst 1, 1) := by decide +kernel
theorem dX12_readsClause_135 : decode cX12_readsClause 135 = .ok (.iadd, 1) := by decide +kernel
theorem dX12_readsClause_136 : decode cX12_readsClause 136 = .ok (.putfield 225, 3) := by decide +kernel
theorem dX12_readsClause_139 : decode cX12_readsClause 139 = .ok (.iconst 1, 1) := by decide +kernel
theorem dX12_readsClause_140 : decode cX12_readsClause 140 = .ok (.ireturn, 1) := by decide +kernel
set_option maxRecDepth 100000 in
def f_m_readsClause (x1 : Int) (V : Nat → Nat → Int) (J : Nat → Nat → Int) (Rr : Nat → Nat → Nat) : (Int × (Nat → Nat → Int)) → Prop :=
  rdb (V 0 5) fun z1 => fct (0 ≤ z1 ∧ z1 ≤ 220) <| rdb (V 0 6) fun z2 => fct (0 ≤ z2 ∧ z2 ≤ 220) <| rdb (V 0 10) fun z3 => fct (0 ≤ z3 ∧ z3 ≤ 220) <| rdb (V 0 12) fun z4 => fct (0 ≤ z4 ∧ z4 ≤ 14) <| calR (f_m_here V J Rr) fun z5 => fct (-1 ≤ z5 ∧ z5 ≤ 255) <| calR (f_m_isClause z5 x1) fun z6 => fct (0 ≤ z6 ∧ z6 ≤ 1) <| (if ¬ z6 = 0 then (if ¬ z4 = 14 then rdb (up2 V 7 z4.toNat z5) fun V10 => rdb (up2 V10 0 5 (z1 + 1)) fun V11 => rdb (up2 V11 8 z4.toNat z3) fun V12 => rdb (up2 V12 0 9 0) fun V13 => rdb (up2 V13 0 11 0) fun V14 => calVM 1770887431076116959136 V14 (f_m_readsSum V14 J Rr) fun z15 V15 => fct (0 ≤ z15 ∧ z15 ≤ 1) <| (if ¬ z15 = 0 then rdb (V15 0 10) fun z18 => fct (0 ≤ z18 ∧ z18 ≤ 220) <| rdb (up2 V15 9 z4.toNat z18) fun V19 => calVM 1770887431076116959136 V19 (f_m_readsCondition V19 J Rr) fun z20 V20 => fct (0 ≤ z20 ∧ z20 ≤ 1) <| (if ¬ z20 = 0 then rdb (V20 0 10) fun z23 => fct (0 ≤ z23 ∧ z23 ≤ 220) <| rdb (up2 V20 10 z4.toNat z23) fun V24 => rdb (up2 V24 0 12 (z4 + 1)) fun V25 => rtn (1, V25) else rtn (0, V20)) else rtn (0, V15)) else calVM 128 V (f_m_wrongAt 4 z1 V J Rr) fun z26 V26 => fct (0 ≤ z26 ∧ z26 ≤ 0) <| rtn (z26, V26)) else calVM 128 V (f_m_wrongAt 1 z1 V J Rr) fun z27 V27 => fct (0 ≤ z27 ∧ z27 ≤ 0) <| rtn (z27, V27))
set_option maxHeartbeats 8000000 in
set_option maxRecDepth 100000 in
theorem m_readsClause (l : Launch) (D : va_G) (cy : Nat → ClassId) (ad : Nat → Nat) (G : Nat → Nat → Int) (V J : Nat → Nat → Int) (Rr : Nat → Nat → Nat) (hI : MI G V) (hJ : VJ J) (hR : MR Rr) (x1 : Int) (bx1 : 0 ≤ x1 ∧ x1 ≤ 4) (hT : PT V) : xMi l D (xTY cy) yX12_readsClause cX12_readsClause 3 (some .boolean) 7 145 0 0 [.ref (ad 0), vI x1] (MW cy ad V J Rr) (fun u : Nat → Nat → Int => MW cy ad u J Rr) (fun a (u : Nat → Nat → Int) => MI G u ∧ (0 ≤ a ∧ a ≤ 1) ∧ Sp a (pClause V u) ∧ FBm 37188636052598456065952 V u ∧ (f_m_readsClause x1 V J Rr) (a, u)) := by
  refine xMi.mk (lv0 := [(0, .ref (ad 0)), (1, vI x1)]) (by decide) rfl (Nat.le_of_ble_eq_true rfl) (fun p e s m below meth c A C hr hnm hAe => ?_)
  have C : xC2 p s m _ meth c D A s.heap 3 cX12_readsClause RX12 (xTY cy) := C
  have hB : FBm 37188636052598456065952 V V := FBm.rf _ _
  have hF := Imp.of_eq (f_m_readsClause.eq_def x1 V J Rr)
  obtain ⟨z1, ez1, bz1⟩ := hI.rd 0 5 (x := 0) (y := 220) rfl
  replace hF := hF.to (rdb_e (z := z1) ez1)
  replace hF := hF.fc bz1
  obtain ⟨z2, ez2, bz2⟩ := hI.rd 0 6 (x := 0) (y := 220) rfl
  replace hF := hF.to (rdb_e (z := z2) ez2)
  replace hF := hF.fc bz2
  obtain ⟨z3, ez3, bz3⟩ := hI.rd 0 10 (x := 0) (y := 220) rfl
  replace hF := hF.to (rdb_e (z := z3) ez3)
  replace hF := hF.fc bz3
  obtain ⟨z4, ez4, bz4⟩ := hI.rd 0 12 (x := 0) (y := 14) rfl
  replace hF := hF.to (rdb_e (z := z4) ez4)
  replace hF := hF.fc bz4
  have hpz := hT.1
  rw [ez1, ez2, ez3, ez4] at hpz
  refine x_aload_n C.1 dX12_readsClause_0 0 rfl ?_
  refine x_callVi C (As := []) (rest := []) 0 (xw_at (N := 33) (i := 0) (by decide) rfl) vc_X12 (m_here l D cy ad G V J Rr hI hJ hR ) (l1 := []) (l2 := []) (List.append_nil _).symm (w2 := fun _ => MW cy ad V J Rr) (fun _ => List.append_nil _) rfl wm_yX12_here wn_X12 wl_X12_150 wi_yX12_here we_yX12_here hd_yX12_here rfl ⟨Nat.le_of_ble_eq_true rfl, Nat.le_of_ble_eq_true rfl⟩ (Nat.le_of_ble_eq_true rfl) ⟨Nat.le_of_ble_eq_true rfl, Nat.le_of_ble_eq_true rfl⟩ dX12_readsClause_1 (fun z5 u5 bz5 h5 => ?_)
  obtain ⟨bq5, hx5_0, hx5_1, hFc5⟩ := h5
  replace hF := calR_i hF hFc5
  replace hF := hF.fc bq5
  rw [ez1, ez2] at hx5_0
  refine x_istore_n C.1 (lv' := [(2, vI z5), (0, .ref (ad 0)), (1, vI x1)]) dX12_readsClause_4 (by decide) rfl ?_
  refine x_iload_n C.1 dX12_readsClause_5 0 rfl ?_
  refine x_iload_n C.1 dX12_readsClause_6 2 rfl ?_
  refine x_callSi C (As := [vI z5, vI x1]) (rest := []) (m_isClause l D cy z5 ⟨by omega, by omega⟩ x1 ⟨by omega, by omega⟩) (l1 := []) (l2 := _) rfl (w2 := fun _ => _) (fun _ => rfl) rfl wm_yX12_isClause wn_X12 wl_X12_222 wi_yX12_isClause hd_yX12_isClause rfl ⟨Nat.le_of_ble_eq_true rfl, Nat.le_of_ble_eq_true rfl⟩ (Nat.le_of_ble_eq_true rfl) ⟨Nat.le_of_ble_eq_true rfl, Nat.le_of_ble_eq_true rfl⟩ dX12_readsClause_7 (fun z6 u6 bz6 h6 => ?_)
  obtain ⟨bq6, hx6_0, hFc6⟩ := h6
  replace hF := calR_i hF hFc6
  replace hF := hF.fc bq6
  refine x_if_ne C.1 (tgt := 23) dX12_readsClause_10 (by decide) (by omega) (fun hc7 => ?_) (fun hc7 => ?_)
  · replace hF := hF.to (if_pos hc7)
    have hon8 := Sp.on hx6_0 (by omega)
    refine x_aload_n C.1 dX12_readsClause_23 1 rfl ?_
    refine x_getI C (N := 33) (i := 0) (by decide) rfl vc_X12 wx_X12 12 (by decide) wf_X12_225 rfl dX12_readsClause_24 (a := z4) ez4 ?_
    refine x_bipush C.1 (n := 14) dX12_readsClause_27 ?_
    refine x_icmp_ne C.1 (tgt := 42) dX12_readsClause_29 (by decide) (by omega) (by decide) (fun hc9 => ?_) (fun hc9 => ?_)
    · replace hF := hF.to (if_pos hc9)
      refine x_aload_n C.1 dX12_readsClause_42 1 rfl ?_
      refine x_getA C (N := 33) (i := 0) (by decide) rfl vc_X12 wx_X12 15 (by decide) wf_X12_29 (a := 7) rfl dX12_readsClause_43 ?_
      refine x_aload_n C.1 dX12_readsClause_46 1 rfl ?_
      refine x_getI C (N := 33) (i := 0) (by decide) rfl vc_X12 wx_X12 12 (by decide) wf_X12_225 rfl dX12_readsClause_47 (a := z4) ez4 ?_
      refine x_iload_n C.1 dX12_readsClause_50 0 rfl ?_
      refine x_iast C (N := 33) (i := 7) (q := z4) (a := z5) (by decide) rfl (by omega) (by decide) dX12_readsClause_51 ?_
      refine x_gV ?_
      intro V10 hV10
      have hI10 : MI G V10 := hI.up hV10 rfl (by omega) rfl (Or.inl (by decide))
      have hB10 := hB.up hV10 (by rw [mkey_r (by decide)]; rfl)
      replace hF := hF.to (rdb_e (z := V10) hV10.symm)
      refine x_aload_n C.1 dX12_readsClause_52 1 rfl ?_
      refine x_aload_n C.1 dX12_readsClause_53 1 rfl ?_
      refine x_getI C (N := 33) (i := 0) (by decide) rfl vc_X12 wx_X12 5 (by decide) wf_X12_144 rfl dX12_readsClause_54 (a := z1) ((congrFun (congrFun hV10 0) 5).trans ((up2_n _ _ (Or.inl (by decide))).trans ez1)) ?_
      refine x_iconst C.1 (n := 1) dX12_readsClause_57 ?_
      refine x_iadd C.1 (v := z1 + 1) (by omega) dX12_readsClause_58 ?_
      refine x_putI C (N := 33) (i := 0) (by decide) rfl vc_X12 wx_X12 5 (by decide) wf_X12_144 tyX12 tyX12_ok nmX12 rfl (tyX12_ok 5 (by decide)) rfl dX12_readsClause_59 rfl rfl ?_
      refine x_gV ?_
      intro V11 hV11
      have hI11 : MI G V11 := hI10.up hV11 rfl (by omega) rfl (Or.inl (by decide))
      have hB11 := hB10.up hV11 rfl
      replace hF := hF.to (rdb_e (z := V11) hV11.symm)
      refine x_aload_n C.1 dX12_readsClause_62 1 rfl ?_
      refine x_getA C (N := 33) (i := 0) (by decide) rfl vc_X12 wx_X12 16 (by decide) wf_X12_32 (a := 8) rfl dX12_readsClause_63 ?_
      refine x_aload_n C.1 dX12_readsClause_66 1 rfl ?_
      refine x_getI C (N := 33) (i := 0) (by decide) rfl vc_X12 wx_X12 12 (by decide) wf_X12_225 rfl dX12_readsClause_67 (a := z4) ((congrFun (congrFun hV11 0) 12).trans ((up2_n _ _ (Or.inr (by decide))).trans ((congrFun (congrFun hV10 0) 12).trans ((up2_n _ _ (Or.inl (by decide))).trans ez4)))) ?_
      refine x_aload_n C.1 dX12_readsClause_70 1 rfl ?_
      refine x_getI C (N := 33) (i := 0) (by decide) rfl vc_X12 wx_X12 10 (by decide) wf_X12_167 rfl dX12_readsClause_71 (a := z3) ((congrFun (congrFun hV11 0) 10).trans ((up2_n _ _ (Or.inr (by decide))).trans ((congrFun (congrFun hV10 0) 10).trans ((up2_n _ _ (Or.inl (by decide))).trans ez3)))) ?_
      refine x_iast C (N := 33) (i := 8) (q := z4) (a := z3) (by decide) rfl (by omega) (by decide) dX12_readsClause_74 ?_
      refine x_gV ?_
      intro V12 hV12
      have hI12 : MI G V12 := hI11.up hV12 rfl (by omega) rfl (Or.inl (by decide))
      have hB12 := hB11.up hV12 (by rw [mkey_r (by decide)]; rfl)
      replace hF := hF.to (rdb_e (z := V12) hV12.symm)
      refine x_aload_n C.1 dX12_readsClause_75 1 rfl ?_
      refine x_iconst C.1 (n := 0) dX12_readsClause_76 ?_
      refine x_putI C (N := 33) (i := 0) (by decide) rfl vc_X12 wx_X12 9 (by decide) wf_X12_171 tyX12 tyX12_ok nmX12 rfl (tyX12_ok 9 (by decide)) rfl dX12_readsClause_77 rfl rfl ?_
      refine x_gV ?_
      intro V13 hV13
      have hI13 : MI G V13 := hI12.up hV13 rfl (by decide) rfl (Or.inl (by decide))
      have hB13 := hB12.up hV13 rfl
      replace hF := hF.to (rdb_e (z := V13) hV13.symm)
      refine x_aload_n C.1 dX12_readsClause_80 1 rfl ?_
      refine x_iconst C.1 (n := 0) dX12_readsClause_81 ?_
      refine x_putI C (N := 33) (i := 0) (by decide) rfl vc_X12 wx_X12 11 (by decide) wf_X12_174 tyX12 tyX12_ok nmX12 rfl (tyX12_ok 11 (by decide)) rfl dX12_readsClause_82 rfl rfl ?_
      refine x_gV ?_
      intro V14 hV14
      have hI14 : MI G V14 := hI13.up hV14 rfl (by decide) rfl (Or.inl (by decide))
      have hB14 := hB13.up hV14 rfl
      replace hF := hF.to (rdb_e (z := V14) hV14.symm)
      have hE : clE V V14 := ⟨z5, 0, by rw [hV14, hV13, hV12, hV11, hV10, ez4, ez1, ez3]⟩
      have hEf := hE.fact hT (by rw [ez1, ez2]; omega)
      refine x_aload_n C.1 dX12_readsClause_85 1 rfl ?_
      refine x_callVi C (As := []) (rest := []) 0 (xw_at (N := 33) (i := 0) (by decide) rfl) vc_X12 (m_readsSum l D cy ad G V14 J Rr hI14 hJ hR hEf.1 hEf.2.1 (Or.inl hEf.2.2.1)) (l1 := []) (l2 := []) (List.append_nil _).symm (w2 := fun u : Nat → Nat → Int => MW cy ad u J Rr) (fun _ => List.append_nil _) rfl wm_yX12_readsSum wn_X12 wl_X12_207 wi_yX12_readsSum we_yX12_readsSum hd_yX12_readsSum rfl ⟨Nat.le_of_ble_eq_true rfl, Nat.le_of_ble_eq_true rfl⟩ (Nat.le_of_ble_eq_true rfl) ⟨Nat.le_of_ble_eq_true rfl, Nat.le_of_ble_eq_true rfl⟩ dX12_readsClause_86 (fun z15 V15 bz15 h15 => ?_)
      obtain ⟨hI15, bq15, hx15_0, hBc15, hFc15⟩ := h15
      replace hF := calVM_i hF hFc15 hBc15
      replace hF := hF.fc bq15
      have hB15 := hB14.tr hBc15 (m := 1770887431076116959136) rfl
      refine x_if_ne C.1 (tgt := 94) dX12_readsClause_89 (by decide) (by omega) (fun hc16 => ?_) (fun hc16 => ?_)
      · replace hF := hF.to (if_pos hc16)
        have hon17 := Sp.on hx15_0 (by omega)
        refine x_aload_n C.1 dX12_readsClause_94 1 rfl ?_
        refine x_getA C (N := 33) (i := 0) (by decide) rfl vc_X12 wx_X12 17 (by decide) wf_X12_35 (a := 9) rfl dX12_readsClause_95 ?_
        refine x_aload_n C.1 dX12_readsClause_98 1 rfl ?_
        refine x_getI C (N := 33) (i := 0) (by decide) rfl vc_X12 wx_X12 12 (by decide) wf_X12_225 rfl dX12_readsClause_99 (a := z4) ((hon17.2.2.2.2.2.1.2.2.2.1).trans ((congrFun (congrFun hV14 0) 12).trans ((up2_n _ _ (Or.inr (by decide))).trans ((congrFun (congrFun hV13 0) 12).trans ((up2_n _ _ (Or.inr (by decide))).trans ((congrFun (congrFun hV12 0) 12).trans ((up2_n _ _ (Or.inl (by decide))).trans ((congrFun (congrFun hV11 0) 12).trans ((up2_n _ _ (Or.inr (by decide))).trans ((congrFun (congrFun hV10 0) 12).trans ((up2_n _ _ (Or.inl (by decide))).trans ez4))))))))))) ?_
        refine x_aload_n C.1 dX12_readsClause_102 1 rfl ?_
        obtain ⟨z18, ez18, bz18⟩ := hI15.rd 0 10 (x := 0) (y := 220) rfl
        replace hF := hF.to (rdb_e (z := z18) ez18)
        replace hF := hF.fc bz18
        refine x_getI C (N := 33) (i := 0) (by decide) rfl vc_X12 wx_X12 10 (by decide) wf_X12_167 rfl dX12_readsClause_103 (a := z18) ez18 ?_
        refine x_iast C (N := 33) (i := 9) (q := z4) (a := z18) (by decide) rfl (by omega) (by decide) dX12_readsClause_106 ?_
        refine x_gV ?_
        intro V19 hV19
        have hI19 : MI G V19 := hI15.up hV19 rfl (by omega) rfl (Or.inl (by decide))
        have hB19 := hB15.up hV19 (by rw [mkey_r (by decide)]; rfl)
        replace hF := hF.to (rdb_e (z := V19) hV19.symm)
        have hFe : V19 = up2 V15 9 (V 0 12).toNat (V15 0 10) := by rw [hV19, ez18, ez4]
        have hFp := clF hon17 hEf.2.1 hFe
        refine x_aload_n C.1 dX12_readsClause_107 1 rfl ?_
        refine x_callVi C (As := []) (rest := []) 0 (xw_at (N := 33) (i := 0) (by decide) rfl) vc_X12 (m_readsCondition l D cy ad G V19 J Rr hI19 hJ hR hFp.1 hFp.2) (l1 := []) (l2 := []) (List.append_nil _).symm (w2 := fun u : Nat → Nat → Int => MW cy ad u J Rr) (fun _ => List.append_nil _) rfl wm_yX12_readsCondition wn_X12 wl_X12_228 wi_yX12_readsCondition we_yX12_readsCondition hd_yX12_readsCondition rfl ⟨Nat.le_of_ble_eq_true rfl, Nat.le_of_ble_eq_true rfl⟩ (Nat.le_of_ble_eq_true rfl) ⟨Nat.le_of_ble_eq_true rfl, Nat.le_of_ble_eq_true rfl⟩ dX12_readsClause_108 (fun z20 V20 bz20 h20 => ?_)
        obtain ⟨hI20, bq20, hx20_0, hBc20, hFc20⟩ := h20
        replace hF := calVM_i hF hFc20 hBc20
        replace hF := hF.fc bq20
        have hB20 := hB19.tr hBc20 (m := 1770887431076116959136) rfl
        refine x_if_ne C.1 (tgt := 116) dX12_readsClause_111 (by decide) (by omega) (fun hc21 => ?_) (fun hc21 => ?_)
        · replace hF := hF.to (if_pos hc21)
          have hon22 := Sp.on hx20_0 (by omega)
          refine x_aload_n C.1 dX12_readsClause_116 1 rfl ?_
          refine x_getA C (N := 33) (i := 0) (by decide) rfl vc_X12 wx_X12 18 (by decide) wf_X12_38 (a := 10) rfl dX12_readsClause_117 ?_
          refine x_aload_n C.1 dX12_readsClause_120 1 rfl ?_
          refine x_getI C (N := 33) (i := 0) (by decide) rfl vc_X12 wx_X12 12 (by decide) wf_X12_225 rfl dX12_readsClause_121 (a := z4) ((hon22.2.2.2.2.2.2.1).trans ((congrFun (congrFun hV19 0) 12).trans ((up2_n _ _ (Or.inl (by decide))).trans ((hon17.2.2.2.2.2.1.2.2.2.1).trans ((congrFun (congrFun hV14 0) 12).trans ((up2_n _ _ (Or.inr (by decide))).trans ((congrFun (congrFun hV13 0) 12).trans ((up2_n _ _ (Or.inr (by decide))).trans ((congrFun (congrFun hV12 0) 12).trans ((up2_n _ _ (Or.inl (by decide))).trans ((congrFun (congrFun hV11 0) 12).trans ((up2_n _ _ (Or.inr (by decide))).trans ((congrFun (congrFun hV10 0) 12).trans ((up2_n _ _ (Or.inl (by decide))).trans ez4)))))))))))))) ?_
          refine x_aload_n C.1 dX12_readsClause_124 1 rfl ?_
          obtain ⟨z23, ez23, bz23⟩ := hI20.rd 0 10 (x := 0) (y := 220) rfl
          replace hF := hF.to (rdb_e (z := z23) ez23)
          replace hF := hF.fc bz23
          refine x_getI C (N := 33) (i := 0) (by decide) rfl vc_X12 wx_X12 10 (by decide) wf_X12_167 rfl dX12_readsClause_125 (a := z23) ez23 ?_
          refine x_iast C (N := 33) (i := 10) (q := z4) (a := z23) (by decide) rfl (by omega) (by decide) dX12_readsClause_128 ?_
          refine x_gV ?_
          intro V24 hV24
          have hI24 : MI G V24 := hI20.up hV24 rfl (by omega) rfl (Or.inl (by decide))
          have hB24 := hB20.up hV24 (by rw [mkey_r (by decide)]; rfl)
          replace hF := hF.to (rdb_e (z := V24) hV24.symm)
          refine x_aload_n C.1 dX12_readsClause_129 1 rfl ?_
          refine x_aload_n C.1 dX12_readsClause_130 1 rfl ?_
          refine x_getI C (N := 33) (i := 0) (by decide) rfl vc_X12 wx_X12 12 (by decide) wf_X12_225 rfl dX12_readsClause_131 (a := z4) ((congrFun (congrFun hV24 0) 12).trans ((up2_n _ _ (Or.inl (by decide))).trans ((hon22.2.2.2.2.2.2.1).trans ((congrFun (congrFun hV19 0) 12).trans ((up2_n _ _ (Or.inl (by decide))).trans ((hon17.2.2.2.2.2.1.2.2.2.1).trans ((congrFun (congrFun hV14 0) 12).trans ((up2_n _ _ (Or.inr (by decide))).trans ((congrFun (congrFun hV13 0) 12).trans ((up2_n _ _ (Or.inr (by decide))).trans ((congrFun (congrFun hV12 0) 12).trans ((up2_n _ _ (Or.inl (by decide))).trans ((congrFun (congrFun hV11 0) 12).trans ((up2_n _ _ (Or.inr (by decide))).trans ((congrFun (congrFun hV10 0) 12).trans ((up2_n _ _ (Or.inl (by decide))).trans ez4)))))))))))))))) ?_
          refine x_iconst C.1 (n := 1) dX12_readsClause_134 ?_
          refine x_iadd C.1 (v := z4 + 1) (by omega) dX12_readsClause_135 ?_
          refine x_putI C (N := 33) (i := 0) (by decide) rfl vc_X12 wx_X12 12 (by decide) wf_X12_225 tyX12 tyX12_ok nmX12 rfl (tyX12_ok 12 (by decide)) rfl dX12_readsClause_136 rfl rfl ?_
          refine x_gV ?_
          intro V25 hV25
          have hI25 : MI G V25 := hI24.up hV25 rfl (by omega) rfl (Or.inl (by decide))
          have hB25 := hB24.up hV25 rfl
          replace hF := hF.to (rdb_e (z := V25) hV25.symm)
          refine x_iconst C.1 (n := 1) dX12_readsClause_139 ?_
          exact x_zret (S := (Nat → Nat → Int)) (post := (fun a (u : Nat → Nat → Int) => MI G u ∧ (0 ≤ a ∧ a ≤ 1) ∧ Sp a (pClause V u) ∧ FBm 37188636052598456065952 V u ∧ (f_m_readsClause x1 V J Rr) (a, u))) (w1 := (fun u : Nat → Nat → Int => MW cy ad u J Rr)) (a := 1) C hr rfl dX12_readsClause_140 (by decide) V25 rfl ⟨hI25, ⟨by decide, by decide⟩, (Or.inr ⟨rfl, pClause.mk hT (by rw [ez1, ez2]; omega) hE hon17 hFe hon22 (by rw [hV25, hV24, ez23, ez4])⟩), hB25, hF _ rfl⟩
        · replace hF := hF.to (if_neg (fun hh => hh hc21))
          refine x_iconst C.1 (n := 0) dX12_readsClause_114 ?_
          exact x_zret (S := (Nat → Nat → Int)) (post := (fun a (u : Nat → Nat → Int) => MI G u ∧ (0 ≤ a ∧ a ≤ 1) ∧ Sp a (pClause V u) ∧ FBm 37188636052598456065952 V u ∧ (f_m_readsClause x1 V J Rr) (a, u))) (w1 := (fun u : Nat → Nat → Int => MW cy ad u J Rr)) (a := 0) C hr rfl dX12_readsClause_115 (by decide) V20 rfl ⟨hI20, ⟨by decide, by decide⟩, (Or.inl rfl), hB20, hF _ rfl⟩
      · replace hF := hF.to (if_neg (fun hh => hh hc16))
        refine x_iconst C.1 (n := 0) dX12_readsClause_92 ?_
        exact x_zret (S := (Nat → Nat → Int)) (post := (fun a (u : Nat → Nat → Int) => MI G u ∧ (0 ≤ a ∧ a ≤ 1) ∧ Sp a (pClause V u) ∧ FBm 37188636052598456065952 V u ∧ (f_m_readsClause x1 V J Rr) (a, u))) (w1 := (fun u : Nat → Nat → Int => MW cy ad u J Rr)) (a := 0) C hr rfl dX12_readsClause_93 (by decide) V15 rfl ⟨hI15, ⟨by decide, by decide⟩, (Or.inl rfl), hB15, hF _ rfl⟩
    · replace hF := hF.to (if_neg (fun hh => hh hc9))
      refine x_aload_n C.1 dX12_readsClause_32 1 rfl ?_
      refine x_iconst C.1 (n := 4) dX12_readsClause_33 ?_
      refine x_aload_n C.1 dX12_readsClause_34 1 rfl ?_
      refine x_getI C (N := 33) (i := 0) (by decide) rfl vc_X12 wx_X12 5 (by decide) wf_X12_144 rfl dX12_readsClause_35 (a := z1) ez1 ?_
      refine x_callVi C (As := [vI 4, vI z1]) (rest := []) 0 (xw_at (N := 33) (i := 0) (by decide) rfl) vc_X12 (m_wrongAt l D cy ad G V J Rr hI hJ hR 4 ⟨by decide, by decide⟩ z1 ⟨by omega, by omega⟩) (l1 := []) (l2 := []) (List.append_nil _).symm (w2 := fun u : Nat → Nat → Int => MW cy ad u J Rr) (fun _ => List.append_nil _) rfl wm_yX12_wrongAt wn_X12 wl_X12_157 wi_yX12_wrongAt we_yX12_wrongAt hd_yX12_wrongAt rfl ⟨Nat.le_of_ble_eq_true rfl, Nat.le_of_ble_eq_true rfl⟩ (Nat.le_of_ble_eq_true rfl) ⟨Nat.le_of_ble_eq_true rfl, Nat.le_of_ble_eq_true rfl⟩ dX12_readsClause_38 (fun z26 V26 bz26 h26 => ?_)
      obtain ⟨hI26, bq26, hx26_0, hBc26, hFc26⟩ := h26
      replace hF := calVM_i hF hFc26 hBc26
      replace hF := hF.fc bq26
      have hB26 := hB.tr hBc26 (m := 128) rfl
      exact x_zret (S := (Nat → Nat → Int)) (post := (fun a (u : Nat → Nat → Int) => MI G u ∧ (0 ≤ a ∧ a ≤ 1) ∧ Sp a (pClause V u) ∧ FBm 37188636052598456065952 V u ∧ (f_m_readsClause x1 V J Rr) (a, u))) (w1 := (fun u : Nat → Nat → Int => MW cy ad u J Rr)) (a := z26) C hr rfl dX12_readsClause_41 (by omega) V26 rfl ⟨hI26, ⟨by omega, by omega⟩, (Or.inl (by omega)), hB26, hF _ rfl⟩
  · replace hF := hF.to (if_neg (fun hh => hh hc7))
    refine x_aload_n C.1 dX12_readsClause_13 1 rfl ?_
    refine x_iconst C.1 (n := 1) dX12_readsClause_14 ?_
    refine x_aload_n C.1 dX12_readsClause_15 1 rfl ?_
    refine x_getI C (N := 33) (i := 0) (by decide) rfl vc_X12 wx_X12 5 (by decide) wf_X12_144 rfl dX12_readsClause_16 (a := z1) ez1 ?_
    refine x_callVi C (As := [vI 1, vI z1]) (rest := []) 0 (xw_at (N := 33) (i := 0) (by decide) rfl) vc_X12 (m_wrongAt l D cy ad G V J Rr hI hJ hR 1 ⟨by decide, by decide⟩ z1 ⟨by omega, by omega⟩) (l1 := []) (l2 := []) (List.append_nil _).symm (w2 := fun u : Nat → Nat → Int => MW cy ad u J Rr) (fun _ => List.append_nil _) rfl wm_yX12_wrongAt wn_X12 wl_X12_157 wi_yX12_wrongAt we_yX12_wrongAt hd_yX12_wrongAt rfl ⟨Nat.le_of_ble_eq_true rfl, Nat.le_of_ble_eq_true rfl⟩ (Nat.le_of_ble_eq_true rfl) ⟨Nat.le_of_ble_eq_true rfl, Nat.le_of_ble_eq_true rfl⟩ dX12_readsClause_19 (fun z27 V27 bz27 h27 => ?_)
    obtain ⟨hI27, bq27, hx27_0, hBc27, hFc27⟩ := h27
    replace hF := calVM_i hF hFc27 hBc27
    replace hF := hF.fc bq27
    have hB27 := hB.tr hBc27 (m := 128) rfl
    exact x_zret (S := (Nat → Nat → Int)) (post := (fun a (u : Nat → Nat → Int) => MI G u ∧ (0 ≤ a ∧ a ≤ 1) ∧ Sp a (pClause V u) ∧ FBm 37188636052598456065952 V u ∧ (f_m_readsClause x1 V J Rr) (a, u))) (w1 := (fun u : Nat → Nat → Int => MW cy ad u J Rr)) (a := z27) C hr rfl dX12_readsClause_22 (by omega) V27 rfl ⟨hI27, ⟨by omega, by omega⟩, (Or.inl (by omega)), hB27, hF _ rfl⟩
end
section
theorem hd_yX12_readsClause : yX12_readsClause.cls ≠ "java/lang/invoke/MethodHandle" ∧ yX12_readsClause.cls ≠ "java/lang/invoke/VarHandle" ∧ (parseMethodDescriptor yX12_readsClause.desc).map (fun d => d.parameters.length) = some 1 := by decide +kernel
theorem dX12_reads_0 : decode cX12_reads 0 = .ok (.iload_n 2, 1) := by decide +kernel
theorem dX12_reads_1 : decode cX12_reads 1 = .ok (.iconst 1, 1) := by decide +kernel
theorem dX12_reads_2 : decode cX12_reads 2 = .ok (.sipush 200, 3) := by decide +kernel
theorem dX12_reads_5 : decode cX12_reads 5 = .ok (.invokestatic 126, 3) := by decide +kernel
theorem dX12_reads_8 : decode cX12_reads 8 = .ok (.ifCond .eq 11, 3) := by decide +kernel
theorem dX12_reads_11 : decode cX12_reads 11 = .ok (.iload_n 2, 1) := by decide +kernel
theorem dX12_reads_12 : decode cX12_reads 12 = .ok (.aload_n 0, 1) := by decide +kernel
theorem dX12_reads_13 : decode cX12_reads 13 = .ok (.getfield 137, 3) := by decide +kernel
theorem dX12_reads_16 : decode cX12_reads 16 = .ok (.if_icmp .le 5, 3) := by decide +kernel
theorem dX12_reads_19 : decode cX12_reads 19 = .ok (.iconst (-1), 1) := by decide +kernel
theorem dX12_reads_20 : decode cX12_reads 20 = .ok (.ireturn, 1) := by decide +kernel
theorem dX12_reads_21 : decode cX12_reads 21 = .ok (.aload_n 0, 1) := by decide +kernel
theorem dX12_reads_22 : decode cX12_reads 22 = .ok (.iconst 0, 1) := by decide +kernel
theorem dX12_reads_23 : decode cX12_reads 23 = .ok (.putfield 144, 3) := by decide +kernel
theorem dX12_reads_26 : decode cX12_reads 26 = .ok (.aload_n 0, 1) := by decide +kernel
theorem dX12_reads_27 : decode cX12_reads 27 = .ok (.iload_n 2, 1) := by decide +kernel
theorem dX12_reads_28 : decode cX12_reads 28 = .ok (.putfield 147, 3) := by decide +kernel
theorem dX12_reads_31 : decode cX12_reads 31 = .ok (.aload_n 0, 1) := by decide +kernel
theorem dX12_reads_32 : decode cX12_reads 32 = .ok (.iconst 0, 1) := by decide +kernel
theorem dX12_reads_33 : decode cX12_reads 33 = .ok (.putfield 167, 3) := by decide +kernel
theorem dX12_reads_36 : decode cX12_reads 36 = .ok (.aload_n 0, 1) := by decide +kernel
theorem dX12_reads_37 : decode cX12_reads 37 = .ok (.iconst 0, 1) := by decide +kernel
theorem dX12_reads_38 : decode cX12_reads 38 = .ok (.putfield 225, 3) := by decide +kernel
theorem dX12_reads_41 : decode cX12_reads 41 = .ok (.aload_n 0, 1) := by decide +kernel
theorem dX12_reads_42 : decode cX12_reads 42 = .ok (.iload_n 1, 1) := by decide +kernel
theorem dX12_reads_43 : decode cX12_reads 43 = .ok (.invokevirtual 231, 3) := by decide +kernel
theorem dX12_reads_46 : decode cX12_reads 46 = .ok (.istore_n 3, 1) := by decide +kernel
theorem dX12_reads_47 : decode cX12_reads 47 = .ok (.iload_n 3, 1) := by decide +kernel
theorem dX12_reads_48 : decode cX12_reads 48 = .ok (.ifCond .eq 40, 3) := by decide +kernel
theorem dX12_reads_51 : decode cX12_reads 51 = .ok (.aload_n 0, 1) := by decide +kernel
theorem dX12_reads_52 : decode cX12_reads 52 = .ok (.getfield 144, 3) := by decide +kernel
theorem dX12_reads_55 : decode cX12_reads 55 = .ok (.aload_n 0, 1) := by decide +kernel
theorem dX12_reads_56 : decode cX12_reads 56 = .ok (.getfield 147, 3) := by decide +kernel
theorem dX12_reads_59 : decode cX12_reads 59 = .ok (.if_icmp .ge 29, 3) := by decide +kernel
theorem dX12_reads_62 : decode cX12_reads 62 = .ok (.aload_n 0, 1) := by decide +kernel
theorem dX12_reads_63 : decode cX12_reads 63 = .ok (.bipush 59, 2) := by decide +kernel
theorem dX12_reads_65 : decode cX12_reads 65 = .ok (.invokevirtual 234, 3) := by decide +kernel
theorem dX12_reads_68 : decode cX12_reads 68 = .ok (.ifCond .eq 15, 3) := by decide +kernel
theorem dX12_reads_71 : decode cX12_reads 71 = .ok (.aload_n 0, 1) := by decide +kernel
theorem dX12_reads_72 : decode cX12_reads 72 = .ok (.iload_n 1, 1) := by decide +kernel
theorem dX12_reads_73 : decode cX12_reads 73 = .ok (.invokevirtual 231, 3) := by decide +kernel
theorem dX12_reads_76 : decode cX12_reads 76 = .ok (.ifCond .eq 7, 3) := by decide +kernel
theorem dX12_reads_79 : decode cX12_reads 79 = .ok (.iconst 1, 1) := by decide +kernel
theorem dX12_reads_80 : decode cX12_reads 80 = .ok (.goto 4, 3) := by decide +kernel
theorem dX12_reads_83 : decode cX12_reads 83 = .ok (.iconst 0, 1) := by decide +kernel
theorem dX12_reads_84 : decode cX12_reads 84 = .ok (.istore_n 3, 1) := by decide +kernel
theorem dX12_reads_85 : decode cX12_reads 85 = .ok (.goto (-38), 3) := by decide +kernel
theorem dX12_reads_88 : decode cX12_reads 88 = .ok (.aload_n 0, 1) := by decide +kernel
theorem dX12_reads_89 : decode cX12_reads 89 = .ok (.iconst 0, 1) := by decide +kernel
theorem dX12_reads_90 : decode cX12_reads 90 = .ok (.putfield 137, 3) := by decide +kernel
theorem dX12_reads_93 : decode cX12_reads 93 = .ok (.iload_n 3, 1) := by decide +kernel
theorem dX12_reads_94 : decode cX12_reads 94 = .ok (.ifCond .ne 8, 3) := by decide +kernel
theorem dX12_reads_97 : decode cX12_reads 97 = .ok (.aload_n 0, 1) := by decide +kernel
theorem dX12_reads_98 : decode cX12_reads 98 = .ok (.getfield 154, 3) := by decide +kernel
theorem dX12_reads_101 : decode cX12_reads 101 = .ok (.ireturn, 1) := by decide +kernel
theorem dX12_reads_102 : decode cX12_reads 102 = .ok (.aload_n 0, 1) := by decide +kernel
theorem dX12_reads_103 : decode cX12_reads 103 = .ok (.getfield 44, 3) := by decide +kernel
theorem dX12_reads_106 : decode cX12_reads 106 = .ok (.iload_n 1, 1) := by decide +kernel
theorem dX12_reads_107 : decode cX12_reads 107 = .ok (.aload_n 0, 1) := by decide +kernel
theorem dX12_reads_108 : decode cX12_reads 108 = .ok (.getfield 225, 3) := by decide +kernel
theorem dX12_reads_111 : decode cX12_reads 111 = .ok (.iastore, 1) := by decide +kernel
theorem dX12_reads_112 : decode cX12_reads 112 = .ok (.sipush 220, 3) := by decide +kernel
theorem dX12_reads_115 : decode cX12_reads 115 = .ok (.iload_n 1, 1) := by decide +kernel
theorem dX12_reads_116 : decode cX12_reads 116 = .ok (.imul, 1) := by decide +kernel
theorem dX12_reads_117 : decode cX12_reads 117 = .ok (.istore 4, 2) := by decide +kernel
theorem dX12_reads_119 : decode cX12_reads 119 = .ok (.iconst 0, 1) := by decide +kernel
theorem dX12_reads_120 : decode cX12_reads 120 = .ok (.istore 5, 2) := by decide +kernel
theorem dX12_reads_122 : decode cX12_reads 122 = .ok (.iload 5, 2) := by decide +kernel
theorem dX12_reads_124 : decode cX12_reads 124 = .ok (.aload_n 0, 1) := by decide +kernel
theorem dX12_reads_125 : decode cX12_reads 125 = .ok (.getfield 167, 3) := by decide +kernel
theorem dX12_reads_128 : decode cX12_reads 128 = .ok (.if_icmp .ge 26, 3) := by decide +kernel
theorem dX12_reads_131 : decode cX12_reads 131 = .ok (.aload_n 0, 1) := by decide +kernel
theorem dX12_reads_132 : decode cX12_reads 132 = .ok (.getfield 41, 3) := by decide +kernel
theorem dX12_reads_135 : decode cX12_reads 135 = .ok (.iload 4, 2) := by decide +kernel
theorem dX12_reads_137 : decode cX12_reads 137 = .ok (.iload 5, 2) := by decide +kernel
theorem dX12_reads_139 : decode cX12_reads 139 = .ok (.iadd, 1) := by decide +kernel
theorem dX12_reads_140 : decode cX12_reads 140 = .ok (.aload_n 0, 1) := by decide +kernel
theorem dX12_reads_141 : decode cX12_reads 141 = .ok (.getfield 23, 3) := by decide +kernel
theorem dX12_reads_144 : decode cX12_reads 144 = .ok (.iload 5, 2) := by decide +kernel
theorem dX12_reads_146 : decode cX12_reads 146 = .ok (.iaload, 1) := by decide +kernel
theorem dX12_reads_147 : decode cX12_reads 147 = .ok (.iastore, 1) := by decide +kernel
theorem dX12_reads_148 : decode cX12_reads 148 = .ok (.iinc 5 1, 3) := by decide +kernel
theorem dX12_reads_151 : decode cX12_reads 151 = .ok (.goto (-29), 3) := by decide +kernel
theorem dX12_reads_154 : decode cX12_reads 154 = .ok (.iconst 0, 1) := by decide +kernel
theorem dX12_reads_155 : decode cX12_reads 155 = .ok (.istore 5, 2) := by decide +kernel
theorem dX12_reads_157 : decode cX12_reads 157 = .ok (.iload 5, 2) := by decide +kernel
theorem dX12_reads_159 : decode cX12_reads 159 = .ok (.aload_n 0, 1) := by decide +kernel
theorem dX12_reads_160 : decode cX12_reads 160 = .ok (.getfield 225, 3) := by decide +kernel
theorem dX12_reads_163 : decode cX12_reads 163 = .ok (.if_icmp .ge 94, 3) := by decide +kernel
theorem dX12_reads_166 : decode cX12_reads 166 = .ok (.aload_n 0, 1) := by decide +kernel
theorem dX12_reads_167 : decode cX12_reads 167 = .ok (.getfield 47, 3) := by decide +kernel
theorem dX12_reads_170 : decode cX12_reads 170 = .ok (.bipush 14, 2) := by decide +kernel
theorem dX12_reads_172 : decode cX12_reads 172 = .ok (.iload_n 1, 1) := by decide +kernel
theorem dX12_reads_173 : decode cX12_reads 173 = .ok (.imul, 1) := by decide +kernel
theorem dX12_reads_174 : decode cX12_reads 174 = .ok (.iload 5, 2) := by decide +kernel
theorem dX12_reads_176 : decode cX12_reads 176 = .ok (.iadd, 1) := by decide +kernel
theorem dX12_reads_177 : decode cX12_reads 177 = .ok (.aload_n 0, 1) := by decide +kernel
theorem dX12_reads_178 : decode cX12_reads 178 = .ok (.getfield 29, 3) := by decide +kernel
theorem dX12_reads_181 : decode cX12_reads 181 = .ok (.iload 5, 2) := by decide +kernel
theorem dX12_reads_183 : decode cX12_reads 183 = .ok (.iaload, 1) := by decide +kernel
theorem dX12_reads_184 : decode cX12_reads 184 = .ok (.iastore, 1) := by decide +kernel
theorem dX12_reads_185 : decode cX12_reads 185 = .ok (.aload_n 0, 1) := by decide +kernel
theorem dX12_reads_186 : decode cX12_reads 186 = .ok (.getfield 50, 3) := by decide +kernel
theorem dX12_reads_189 : decode cX12_reads 189 = .ok (.bipush 14, 2) := by decide +kernel
theorem dX12_reads_191 : decode cX12_reads 191 = .ok (.iload_n 1, 1) := by decide +kernel
theorem dX12_reads_192 : decode cX12_reads 192 = .ok (.imul, 1) := by decide +kernel
theorem dX12_reads_193 : decode cX12_reads 193 = .ok (.iload 5, 2) := by decide +kernel
theorem dX12_reads_195 : decode cX12_reads 195 = .ok (.iadd, 1) := by decide +kernel
theorem dX12_reads_196 : decode cX12_reads 196 = .ok (.iload 4, 2) := by decide +kernel
theorem dX12_reads_198 : decode cX12_reads 198 = .ok (.aload_n 0, 1) := by decide +kernel
theorem dX12_reads_199 : decode cX12_reads 199 = .ok (.getfield 32, 3) := by decide +kernel
theorem dX12_reads_202 : decode cX12_reads 202 = .ok (.iload 5, 2) := by decide +kernel
theorem dX12_reads_204 : decode cX12_reads 204 = .ok (.iaload, 1) := by decide +kernel
theorem dX12_reads_205 : decode cX12_reads 205 = .ok (.iadd, 1) := by decide +kernel
theorem dX12_reads_206 : decode cX12_reads 206 = .ok (.iastore, 1) := by decide +kernel
theorem dX12_reads_207 : decode cX12_reads 207 = .ok (.aload_n 0, 1) := by decide +kernel
theorem dX12_reads_208 : decode cX12_reads 208 = .ok (.getfield 53, 3) := by decide +kernel
theorem dX12_reads_211 : decode cX12_reads 211 = .ok (.bipush 14, 2) := by decide +kernel
theorem dX12_reads_213 : decode cX12_reads 213 = .ok (.iload_n 1, 1) := by decide +kernel
theorem dX12_reads_214 : decode cX12_reads 214 = .ok (.imul, 1) := by decide +kernel
theorem dX12_reads_215 : decode cX12_reads 215 = .ok (.iload 5, 2) := by decide +kernel
theorem dX12_reads_217 : decode cX12_reads 217 = .ok (.iadd, 1) := by decide +kernel
theorem dX12_reads_218 : decode cX12_reads 218 = .ok (.iload 4, 2) := by decide +kernel
theorem dX12_reads_220 : decode cX12_reads 220 = .ok (.aload_n 0, 1) := by decide +kernel
theorem dX12_reads_221 : decode cX12_reads 221 = .ok (.getfield 35, 3) := by decide +kernel
theorem dX12_reads_224 : decode cX12_reads 224 = .ok (.iload 5, 2) := by decide +kernel
theorem dX12_reads_226 : decode cX12_reads 226 = .ok (.iaload, 1) := by decide +kernel
theorem dX12_reads_227 : decode cX12_reads 227 = .ok (.iadd, 1) := by decide +kernel
theorem dX12_reads_228 : decode cX12_reads 228 = .ok (.iastore, 1) := by decide +kernel
theorem dX12_reads_229 : decode cX12_reads 229 = .ok (.aload_n 0, 1) := by decide +kernel
theorem dX12_reads_230 : decode cX12_reads 230 = .ok (.getfield 56, 3) := by decide +kernel
theorem dX12_reads_233 : decode cX12_reads 233 = .ok (.bipush 14, 2) := by decide +kernel
theorem dX12_reads_235 : decode cX12_reads 235 = .ok (.iload_n 1, 1) := by decide +kernel
theorem dX12_reads_236 : decode cX12_reads 236 = .ok (.imul, 1) := by decide +kernel
theorem dX12_reads_237 : decode cX12_reads 237 = .ok (.iload 5, 2) := by decide +kernel
theorem dX12_reads_239 : decode cX12_reads 239 = .ok (.iadd, 1) := by decide +kernel
theorem dX12_reads_240 : decode cX12_reads 240 = .ok (.iload 4, 2) := by decide +kernel
theorem dX12_reads_242 : decode cX12_reads 242 = .ok (.aload_n 0, 1) := by decide +kernel
theorem dX12_reads_243 : decode cX12_reads 243 = .ok (.getfield 38, 3) := by decide +kernel
theorem dX12_reads_246 : decode cX12_reads 246 = .ok (.iload 5, 2) := by decide +kernel
theorem dX12_reads_248 : decode cX12_reads 248 = .ok (.iaload, 1) := by decide +kernel
theorem dX12_reads_249 : decode cX12_reads 249 = .ok (.iadd, 1) := by decide +kernel
theorem dX12_reads_250 : decode cX12_reads 250 = .ok (.iastore, 1) := by decide +kernel
theorem dX12_reads_251 : decode cX12_reads 251 = .ok (.iinc 5 1, 3) := by decide +kernel
theorem dX12_reads_254 : decode cX12_reads 254 = .ok (.goto (-97), 3) := by decide +kernel
theorem dX12_reads_257 : decode cX12_reads 257 = .ok (.aload_n 0, 1) := by decide +kernel
theorem dX12_reads_258 : decode cX12_reads 258 = .ok (.getfield 225, 3) := by decide +kernel
theorem dX12_reads_261 : decode cX12_reads 261 = .ok (.ireturn, 1) := by decide +kernel
set_option maxRecDepth 100000 in
def f_m_reads (x1 : Int) (x2 : Int) (V : Nat → Nat → Int) (J : Nat → Nat → Int) (Rr : Nat → Nat → Nat) : (Int × (Nat → Nat → Int)) → Prop :=
  calR (f_m_in x2 1 200) fun z1 => fct (0 ≤ z1 ∧ z1 ≤ 1) <| (if z1 = 0 then rtn ((-1), V) else rdb (V 0 4) fun z4 => fct (0 ≤ z4 ∧ z4 ≤ 220) <| (if x2 ≤ z4 then rdb (up2 V 0 5 0) fun V6 => rdb (up2 V6 0 6 x2) fun V7 => rdb (up2 V7 0 10 0) fun V8 => rdb (up2 V8 0 12 0) fun V9 => calVM 37188636052598456065952 V9 (f_m_readsClause x1 V9 J Rr) fun z10 V10 => fct (0 ≤ z10 ∧ z10 ≤ 1) <| lop2 (gmu z10 (V10 0 6 - V10 0 5) + 1) (fun rc613 (z611 : Int) (V613 : Nat → Nat → Int) => (if z611 = 0 then rdb (up2 V613 0 4 0) fun V615 => rdb (V615 0 7) fun z616 => rtn (z616, V615) else rdb (V613 0 5) fun z617 => fct (0 ≤ z617 ∧ z617 ≤ 220) <| rdb (V613 0 6) fun z618 => fct (0 ≤ z618 ∧ z618 ≤ 220) <| rdb (V613 0 10) fun z619 => fct (0 ≤ z619 ∧ z619 ≤ 220) <| rdb (V613 0 12) fun z620 => fct (0 ≤ z620 ∧ z620 ≤ 14) <| (if z618 ≤ z617 then rdb (up2 V613 0 4 0) fun V622 => rdb (V622 0 10) fun z623 => fct (0 ≤ z623 ∧ z623 ≤ 220) <| rdb (V622 0 12) fun z624 => fct (0 ≤ z624 ∧ z624 ≤ 14) <| rdb (up2 V622 12 x1.toNat z624) fun V625 => lop2 (222) (fun rc795 (z793 : Int) (V795 : Nat → Nat → Int) => (if z623 ≤ z793 then lop2 (16) (fun rc885 (z883 : Int) (V885 : Nat → Nat → Int) => (if z624 ≤ z883 then rtn (z624, V885) else rdb (V885 7 z883.toNat) fun z896 => rdb (V885 8 z883.toNat) fun z897 => rdb (V885 9 z883.toNat) fun z898 => rdb (V885 10 z883.toNat) fun z899 => rdb (up2 V885 13 ((14 * x1 + z883).toNat) z896) fun V900 => rdb (up2 V900 14 ((14 * x1 + z883).toNat) (220 * x1 + z897)) fun V901 => rdb (up2 V901 15 ((14 * x1 + z883).toNat) (220 * x1 + z898)) fun V902 => rdb (up2 V902 16 ((14 * x1 + z883).toNat) (220 * x1 + z899)) fun V903 => rc885 (z883 + 1) V903)) 0 V795 else rdb (V795 5 z793.toNat) fun z904 => rdb (up2 V795 11 ((220 * x1 + z793).toNat) z904) fun V905 => rc795 (z793 + 1) V905)) 0 V625 else calVM 160 V613 (f_m_takes 59 V613 J Rr) fun z906 V906 => fct (0 ≤ z906 ∧ z906 ≤ 1) <| rdb (V906 0 5) fun z907 => fct (0 ≤ z907 ∧ z907 ≤ 220) <| (if z906 = 0 then rc613 0 V906 else calVM 37188636052598456065952 V906 (f_m_readsClause x1 V906 J Rr) fun z910 V910 => fct (0 ≤ z910 ∧ z910 ≤ 1) <| (if z910 = 0 then rc613 0 V910 else rc613 1 V910))))) z10 V10 else rtn ((-1), V)))
set_option maxHeartbeats 8000000 in
set_option maxRecDepth 100000 in
theorem m_reads (l : Launch) (D : va_G) (cy : Nat → ClassId) (ad : Nat → Nat) (G : Nat → Nat → Int) (V J : Nat → Nat → Int) (Rr : Nat → Nat → Nat) (hI : MI G V) (hJ : VJ J) (hR : MR Rr) (x1 : Int) (bx1 : 0 ≤ x1 ∧ x1 ≤ 4) (x2 : Int) (bx2 : -2147483648 ≤ x2 ∧ x2 ≤ 2147483647) (hW : WP G) : xMi l D (xTY cy) yX12_reads cX12_reads 6 (some .int) 8 167 0 0 [.ref (ad 0), vI x1, vI x2] (MW cy ad V J Rr) (fun u : Nat → Nat → Int => MW cy ad u J Rr) (fun a (u : Nat → Nat → Int) => MI u u ∧ WP u ∧ FBm 2417261343418899643768816 V u ∧ (f_m_reads x1 x2 V J Rr) (a, u)) := by
  refine xMi.mk (lv0 := [(0, .ref (ad 0)), (1, vI x1), (2, vI x2)]) (by decide) rfl (Nat.le_of_ble_eq_true rfl) (fun p e s m below meth c A C hr hnm hAe => ?_)
  have C : xC2 p s m _ meth c D A s.heap 6 cX12_reads RX12 (xTY cy) := C
  have hB : FBm 2417261343418899643768816 V V := FBm.rf _ _
  have hF := Imp.of_eq (f_m_reads.eq_def x1 x2 V J Rr)
  refine x_iload_n C.1 dX12_reads_0 2 rfl ?_
  refine x_iconst C.1 (n := 1) dX12_reads_1 ?_
  refine x_sipush C.1 (n := 200) dX12_reads_2 ?_
  refine x_callSi C (As := [vI x2, vI 1, vI 200]) (rest := []) (m_in l D cy x2 ⟨by omega, by omega⟩ 1 ⟨by decide, by decide⟩ 200 ⟨by decide, by decide⟩) (l1 := []) (l2 := _) rfl (w2 := fun _ => _) (fun _ => rfl) rfl wm_yX12_in wn_X12 wl_X12_126 wi_yX12_in hd_yX12_in rfl ⟨Nat.le_of_ble_eq_true rfl, Nat.le_of_ble_eq_true rfl⟩ (Nat.le_of_ble_eq_true rfl) ⟨Nat.le_of_ble_eq_true rfl, Nat.le_of_ble_eq_true rfl⟩ dX12_reads_5 (fun z1 u1 bz1 h1 => ?_)
  obtain ⟨bq1, hx1_0, hFc1⟩ := h1
  replace hF := calR_i hF hFc1
  replace hF := hF.fc bq1
  refine x_if_eq C.1 (tgt := 19) dX12_reads_8 (by decide) (by omega) (fun hc2 => ?_) (fun hc2 => ?_)
  · replace hF := hF.to (if_pos hc2)
    refine x_iconst C.1 (n := -1) dX12_reads_19 ?_
    exact x_iret (S := (Nat → Nat → Int)) (post := (fun a (u : Nat → Nat → Int) => MI u u ∧ WP u ∧ FBm 2417261343418899643768816 V u ∧ (f_m_reads x1 x2 V J Rr) (a, u))) (w1 := (fun u : Nat → Nat → Int => MW cy ad u J Rr)) (a := (-1)) C hr rfl dX12_reads_20 (by decide) V rfl ⟨hI.sf, (WP.of hI hW), hB, hF _ rfl⟩
  · replace hF := hF.to (if_neg hc2)
    have hon3 := Sq.on hx1_0 (by omega)
    refine x_iload_n C.1 dX12_reads_11 2 rfl ?_
    refine x_aload_n C.1 dX12_reads_12 0 rfl ?_
    obtain ⟨z4, ez4, bz4⟩ := hI.rd 0 4 (x := 0) (y := 220) rfl
    replace hF := hF.to (rdb_e (z := z4) ez4)
    replace hF := hF.fc bz4
    refine x_getI C (N := 33) (i := 0) (by decide) rfl vc_X12 wx_X12 4 (by decide) wf_X12_137 rfl dX12_reads_13 (a := z4) ez4 ?_
    refine x_icmp_le C.1 (tgt := 21) dX12_reads_16 (by decide) (by omega) (by omega) (fun hc5 => ?_) (fun hc5 => ?_)
    · replace hF := hF.to (if_pos hc5)
      refine x_aload_n C.1 dX12_reads_21 0 rfl ?_
      refine x_iconst C.1 (n := 0) dX12_reads_22 ?_
      refine x_putI C (N := 33) (i := 0) (by decide) rfl vc_X12 wx_X12 5 (by decide) wf_X12_144 tyX12 tyX12_ok nmX12 rfl (tyX12_ok 5 (by decide)) rfl dX12_reads_23 rfl rfl ?_
      refine x_gV ?_
      intro V6 hV6
      have hI6 : MI G V6 := hI.up hV6 rfl (by decide) rfl (Or.inl (by decide))
      have hB6 := hB.up hV6 rfl
      replace hF := hF.to (rdb_e (z := V6) hV6.symm)
      refine x_aload_n C.1 dX12_reads_26 0 rfl ?_
      refine x_iload_n C.1 dX12_reads_27 2 rfl ?_
      refine x_putI C (N := 33) (i := 0) (by decide) rfl vc_X12 wx_X12 6 (by decide) wf_X12_147 tyX12 tyX12_ok nmX12 rfl (tyX12_ok 6 (by decide)) rfl dX12_reads_28 rfl rfl ?_
      refine x_gV ?_
      intro V7 hV7
      have hI7 : MI G V7 := hI6.up hV7 rfl (by omega) rfl (Or.inl (by decide))
      have hB7 := hB6.up hV7 rfl
      replace hF := hF.to (rdb_e (z := V7) hV7.symm)
      refine x_aload_n C.1 dX12_reads_31 0 rfl ?_
      refine x_iconst C.1 (n := 0) dX12_reads_32 ?_
      refine x_putI C (N := 33) (i := 0) (by decide) rfl vc_X12 wx_X12 10 (by decide) wf_X12_167 tyX12 tyX12_ok nmX12 rfl (tyX12_ok 10 (by decide)) rfl dX12_reads_33 rfl rfl ?_
      refine x_gV ?_
      intro V8 hV8
      have hI8 : MI G V8 := hI7.up hV8 rfl (by decide) rfl (Or.inl (by decide))
      have hB8 := hB7.up hV8 rfl
      replace hF := hF.to (rdb_e (z := V8) hV8.symm)
      refine x_aload_n C.1 dX12_reads_36 0 rfl ?_
      refine x_iconst C.1 (n := 0) dX12_reads_37 ?_
      refine x_putI C (N := 33) (i := 0) (by decide) rfl vc_X12 wx_X12 12 (by decide) wf_X12_225 tyX12 tyX12_ok nmX12 rfl (tyX12_ok 12 (by decide)) rfl dX12_reads_38 rfl rfl ?_
      refine x_gV ?_
      intro V9 hV9
      have hI9 : MI G V9 := hI8.up hV9 rfl (by decide) rfl (Or.inl (by decide))
      have hB9 := hB8.up hV9 rfl
      replace hF := hF.to (rdb_e (z := V9) hV9.symm)
      have hT0 : PT V9 := PT.start (n := x2) (by omega) ((congrFun (congrFun hV9 0) 5).trans ((up2_n _ _ (Or.inr (by decide))).trans ((congrFun (congrFun hV8 0) 5).trans ((up2_n _ _ (Or.inr (by decide))).trans ((congrFun (congrFun hV7 0) 5).trans ((up2_n _ _ (Or.inr (by decide))).trans ((congrFun (congrFun hV6 0) 5).trans (up2_s _ _ _ _)))))))) ((congrFun (congrFun hV9 0) 6).trans ((up2_n _ _ (Or.inr (by decide))).trans ((congrFun (congrFun hV8 0) 6).trans ((up2_n _ _ (Or.inr (by decide))).trans ((congrFun (congrFun hV7 0) 6).trans (up2_s _ _ _ _)))))) ((congrFun (congrFun hV9 0) 10).trans ((up2_n _ _ (Or.inr (by decide))).trans ((congrFun (congrFun hV8 0) 10).trans (up2_s _ _ _ _)))) ((congrFun (congrFun hV9 0) 12).trans (up2_s _ _ _ _))
      refine x_aload_n C.1 dX12_reads_41 0 rfl ?_
      refine x_iload_n C.1 dX12_reads_42 1 rfl ?_
      refine x_callVi C (As := [vI x1]) (rest := []) 0 (xw_at (N := 33) (i := 0) (by decide) rfl) vc_X12 (m_readsClause l D cy ad G V9 J Rr hI9 hJ hR x1 ⟨by omega, by omega⟩ hT0) (l1 := []) (l2 := []) (List.append_nil _).symm (w2 := fun u : Nat → Nat → Int => MW cy ad u J Rr) (fun _ => List.append_nil _) rfl wm_yX12_readsClause wn_X12 wl_X12_231 wi_yX12_readsClause we_yX12_readsClause hd_yX12_readsClause rfl ⟨Nat.le_of_ble_eq_true rfl, Nat.le_of_ble_eq_true rfl⟩ (Nat.le_of_ble_eq_true rfl) ⟨Nat.le_of_ble_eq_true rfl, Nat.le_of_ble_eq_true rfl⟩ dX12_reads_43 (fun z10 V10 bz10 h10 => ?_)
      obtain ⟨hI10, bq10, hx10_0, hBc10, hFc10⟩ := h10
      replace hF := calVM_i hF hFc10 hBc10
      replace hF := hF.fc bq10
      have hB10 := hB9.tr hBc10 (m := 37188636052598456065952) rfl
      refine x_istore_n C.1 (lv' := [(3, vI z10), (0, .ref (ad 0)), (1, vI x1), (2, vI x2)]) dX12_reads_46 (by decide) rfl ?_
      obtain ⟨bd613, hbd613, hF⟩ := lop2_ex hF
      refine x_loop (I := fun x : Int × (Nat → Nat → Int) => match x with | (z611, V613) => (0 ≤ z611 ∧ z611 ≤ 1) ∧ MI G V613 ∧ FBm 2417261343418899643768816 V V613 ∧ (z611 = 0 ∨ PT V613) ∧ (∃ nf : Nat, gmu z611 (V613 0 6 - V613 0 5) < nf ∧ Imp (lop2 nf bd613 z611 V613) (f_m_reads x1 x2 V J Rr))) (μ := fun x : Int × (Nat → Nat → Int) => match x with | (z611, V613) => gmu z611 (V613 0 6 - V613 0 5)) (wsf := fun x : Int × (Nat → Nat → Int) => match x with | (z611, V613) => MW cy ad V613 J Rr) (lvf := fun x : Int × (Nat → Nat → Int) => match x with | (z611, V613) => [(3, vI z611), (0, .ref (ad 0)), (1, vI x1), (2, vI x2)]) (fun x hI613x ih613 => ?_) (z10, V10) ⟨⟨by omega, by omega⟩, hI10, hB10, (by rcases hx10_0 with hq | ⟨-, hq⟩; exact Or.inl hq; exact Or.inr hq.1), ⟨_, (Nat.lt_succ_self _), hF⟩⟩ rfl rfl
      obtain ⟨z611, V613⟩ := x
      obtain ⟨bz611, hI613, hB613, hg, nf613, hn613, hF⟩ := hI613x
      try dsimp only
      obtain ⟨nf613, rfl⟩ : ∃ mm, nf613 = mm + 1 := ⟨nf613 - 1, (Nat.succ_pred_eq_of_pos (Nat.lt_of_le_of_lt (Nat.zero_le _) hn613)).symm⟩
      replace hF := hF.to (lop2_s hbd613)
      refine x_iload_n C.1 dX12_reads_47 0 rfl ?_
      refine x_if_eq C.1 (tgt := 88) dX12_reads_48 (by decide) (by omega) (fun hc614 => ?_) (fun hc614 => ?_)
      · replace hF := hF.to (if_pos hc614)
        refine x_aload_n C.1 dX12_reads_88 1 rfl ?_
        refine x_iconst C.1 (n := 0) dX12_reads_89 ?_
        refine x_putI C (N := 33) (i := 0) (by decide) rfl vc_X12 wx_X12 4 (by decide) wf_X12_137 tyX12 tyX12_ok nmX12 rfl (tyX12_ok 4 (by decide)) rfl dX12_reads_90 rfl rfl ?_
        refine x_gV ?_
        intro V615 hV615
        have hI615 : MI G V615 := hI613.up hV615 rfl (by decide) rfl (Or.inl (by decide))
        have hB615 := hB613.up hV615 rfl
        replace hF := hF.to (rdb_e (z := V615) hV615.symm)
        refine x_iload_n C.1 dX12_reads_93 0 rfl ?_
        refine x_if_ne_f C.1 (tgt := 102) dX12_reads_94 (by decide) (by omega) (by omega) ?_
        refine x_aload_n C.1 dX12_reads_97 1 rfl ?_
        obtain ⟨z616, ez616, bz616⟩ := hI615.rd 0 7 (x := -2147483648) (y := 2147483647) rfl
        replace hF := hF.to (rdb_e (z := z616) ez616)
        refine x_getI C (N := 33) (i := 0) (by decide) rfl vc_X12 wx_X12 7 (by decide) wf_X12_154 rfl dX12_reads_98 (a := z616) ez616 ?_
        exact x_iret (S := (Nat → Nat → Int)) (post := (fun a (u : Nat → Nat → Int) => MI u u ∧ WP u ∧ FBm 2417261343418899643768816 V u ∧ (f_m_reads x1 x2 V J Rr) (a, u))) (w1 := (fun u : Nat → Nat → Int => MW cy ad u J Rr)) (a := z616) C hr rfl dX12_reads_101 (by omega) V615 rfl ⟨hI615.sf, (WP.of hI615 hW), hB615, hF _ rfl⟩
      · replace hF := hF.to (if_neg hc614)
        have hT1 := hg.resolve_left (by omega)
        obtain ⟨z617, ez617, bz617⟩ := hI613.rd 0 5 (x := 0) (y := 220) rfl
        replace hF := hF.to (rdb_e (z := z617) ez617)
        replace hF := hF.fc bz617
        obtain ⟨z618, ez618, bz618⟩ := hI613.rd 0 6 (x := 0) (y := 220) rfl
        replace hF := hF.to (rdb_e (z := z618) ez618)
        replace hF := hF.fc bz618
        obtain ⟨z619, ez619, bz619⟩ := hI613.rd 0 10 (x := 0) (y := 220) rfl
        replace hF := hF.to (rdb_e (z := z619) ez619)
        replace hF := hF.fc bz619
        obtain ⟨z620, ez620, bz620⟩ := hI613.rd 0 12 (x := 0) (y := 14) rfl
        replace hF := hF.to (rdb_e (z := z620) ez620)
        replace hF := hF.fc bz620
        have hpz := hT1.1
        rw [ez617, ez618, ez619, ez620] at hpz
        refine x_aload_n C.1 dX12_reads_51 1 rfl ?_
        refine x_getI C (N := 33) (i := 0) (by decide) rfl vc_X12 wx_X12 5 (by decide) wf_X12_144 rfl dX12_reads_52 (a := z617) ez617 ?_
        refine x_aload_n C.1 dX12_reads_55 1 rfl ?_
        refine x_getI C (N := 33) (i := 0) (by decide) rfl vc_X12 wx_X12 6 (by decide) wf_X12_147 rfl dX12_reads_56 (a := z618) ez618 ?_
        refine x_icmp_ge C.1 (tgt := 88) dX12_reads_59 (by decide) (by omega) (by omega) (fun hc621 => ?_) (fun hc621 => ?_)
        · replace hF := hF.to (if_pos hc621)
          refine x_aload_n C.1 dX12_reads_88 1 rfl ?_
          refine x_iconst C.1 (n := 0) dX12_reads_89 ?_
          refine x_putI C (N := 33) (i := 0) (by decide) rfl vc_X12 wx_X12 4 (by decide) wf_X12_137 tyX12 tyX12_ok nmX12 rfl (tyX12_ok 4 (by decide)) rfl dX12_reads_90 rfl rfl ?_
          refine x_gV ?_
          intro V622 hV622
          have hI622 : MI G V622 := hI613.up hV622 rfl (by decide) rfl (Or.inl (by decide))
          have hB622 := hB613.up hV622 rfl
          replace hF := hF.to (rdb_e (z := V622) hV622.symm)
          refine x_iload_n C.1 dX12_reads_93 0 rfl ?_
          refine x_if_ne_t C.1 (tgt := 102) dX12_reads_94 (by decide) (by omega) (by omega) ?_
          have hWA := WP.of hI622 hW
          have hTA := hT1.t4 hV622
          have hIu : MU G V622 := hI622.sf
          obtain ⟨z623, ez623, bz623⟩ := hIu.rd 0 10 (x := 0) (y := 220) rfl
          replace hF := hF.to (rdb_e (z := z623) ez623)
          replace hF := hF.fc bz623
          obtain ⟨z624, ez624, bz624⟩ := hIu.rd 0 12 (x := 0) (y := 14) rfl
          replace hF := hF.to (rdb_e (z := z624) ez624)
          replace hF := hF.fc bz624
          have hpA : 0 ≤ z623 ∧ z623 ≤ 200 := by have := hTA.1; rw [ez623] at this; omega
          refine x_aload_n C.1 dX12_reads_102 1 rfl ?_
          refine x_getA C (N := 33) (i := 0) (by decide) rfl vc_X12 wx_X12 20 (by decide) wf_X12_44 (a := 12) rfl dX12_reads_103 ?_
          refine x_iload_n C.1 dX12_reads_106 2 rfl ?_
          refine x_aload_n C.1 dX12_reads_107 1 rfl ?_
          refine x_getI C (N := 33) (i := 0) (by decide) rfl vc_X12 wx_X12 12 (by decide) wf_X12_225 rfl dX12_reads_108 (a := z624) ez624 ?_
          refine x_iast C (N := 33) (i := 12) (q := x1) (a := z624) (by decide) rfl (by omega) (by decide) dX12_reads_111 ?_
          refine x_gV ?_
          intro V625 hV625
          have hI625 : MU G V625 := hIu.up hV625 rfl (by omega) trivial (Or.inl (by decide))
          have hB625 := hB622.up hV625 (by rw [mkey_r (by decide)]; rfl)
          replace hF := hF.to (rdb_e (z := V625) hV625.symm)
          have hrc0 := RC.start (t := x1) bx1.1 (A := V622) (W := V625) (by rw [hV625, ez624])
          refine x_sipush C.1 (n := 220) dX12_reads_112 ?_
          refine x_iload_n C.1 dX12_reads_115 2 rfl ?_
          refine x_imul C.1 (v := 220 * x1) (by omega) dX12_reads_116 ?_
          refine x_istore C.1 (lv' := [(4, vI (220 * x1)), (3, vI z611), (0, .ref (ad 0)), (1, vI x1), (2, vI x2)]) dX12_reads_117 (by decide) rfl ?_
          refine x_iconst C.1 (n := 0) dX12_reads_119 ?_
          refine x_istore C.1 (lv' := [(5, vI 0), (4, vI (220 * x1)), (3, vI z611), (0, .ref (ad 0)), (1, vI x1), (2, vI x2)]) dX12_reads_120 (by decide) rfl ?_
          obtain ⟨bd795, hbd795, hF⟩ := lop2_ex hF
          refine x_loop (I := fun x : Int × (Nat → Nat → Int) => match x with | (z793, V795) => (0 ≤ z793 ∧ z793 ≤ 220) ∧ MU G V795 ∧ FBm 2417261343418899643768816 V V795 ∧ RC x1 z793 V622 V795 ∧ z793 ≤ z623 ∧ V795 0 5 = z617 ∧ V795 0 6 = z618 ∧ V795 0 4 = 0 ∧ V795 0 10 = z623 ∧ V795 0 12 = z624 ∧ V795 12 x1.toNat = z624 ∧ (∃ nf : Nat, (221 - z793).toNat < nf ∧ Imp (lop2 nf bd795 z793 V795) (f_m_reads x1 x2 V J Rr))) (μ := fun x : Int × (Nat → Nat → Int) => match x with | (z793, V795) => (221 - z793).toNat) (wsf := fun x : Int × (Nat → Nat → Int) => match x with | (z793, V795) => MW cy ad V795 J Rr) (lvf := fun x : Int × (Nat → Nat → Int) => match x with | (z793, V795) => [(5, vI z793), (4, vI (220 * x1)), (3, vI z611), (0, .ref (ad 0)), (1, vI x1), (2, vI x2)]) (fun x hI795x ih795 => ?_) (0, V625) ⟨⟨by decide, by decide⟩, hI625, hB625, hrc0, (by omega), ((congrFun (congrFun hV625 0) 5).trans ((up2_n _ _ (Or.inl (by decide))).trans ((congrFun (congrFun hV622 0) 5).trans ((up2_n _ _ (Or.inr (by decide))).trans ez617)))), ((congrFun (congrFun hV625 0) 6).trans ((up2_n _ _ (Or.inl (by decide))).trans ((congrFun (congrFun hV622 0) 6).trans ((up2_n _ _ (Or.inr (by decide))).trans ez618)))), ((congrFun (congrFun hV625 0) 4).trans ((up2_n _ _ (Or.inl (by decide))).trans ((congrFun (congrFun hV622 0) 4).trans (up2_s _ _ _ _)))), ((congrFun (congrFun hV625 0) 10).trans ((up2_n _ _ (Or.inl (by decide))).trans ez623)), ((congrFun (congrFun hV625 0) 12).trans ((up2_n _ _ (Or.inl (by decide))).trans ez624)), ((congrFun (congrFun hV625 12) x1.toNat).trans (up2_s _ _ _ _)), ⟨_, (by omega), hF⟩⟩ rfl rfl
          obtain ⟨z793, V795⟩ := x
          obtain ⟨bz793, hI795, hB795, hrc, hkc, hk794_0, hk794_1, hk794_2, hk794_3, hk794_4, hk794_5, nf795, hn795, hF⟩ := hI795x
          try dsimp only
          obtain ⟨nf795, rfl⟩ : ∃ mm, nf795 = mm + 1 := ⟨nf795 - 1, (Nat.succ_pred_eq_of_pos (Nat.lt_of_le_of_lt (Nat.zero_le _) hn795)).symm⟩
          replace hF := hF.to (lop2_s hbd795)
          refine x_iload C.1 dX12_reads_122 0 rfl ?_
          refine x_aload_n C.1 dX12_reads_124 3 rfl ?_
          refine x_getI C (N := 33) (i := 0) (by decide) rfl vc_X12 wx_X12 10 (by decide) wf_X12_167 rfl dX12_reads_125 (a := z623) hk794_3 ?_
          refine x_icmp_ge C.1 (tgt := 154) dX12_reads_128 (by decide) (by omega) (by omega) (fun hc853 => ?_) (fun hc853 => ?_)
          · replace hF := hF.to (if_pos hc853)
            have hrt0 : RT x1 (V622 0 10) 0 V622 V795 := RC.toT (by rw [ez623, show z623 = z793 by omega]; exact hrc)
            refine x_iconst C.1 (n := 0) dX12_reads_154 ?_
            refine x_istore C.1 (lv' := [(5, vI 0), (4, vI (220 * x1)), (3, vI z611), (0, .ref (ad 0)), (1, vI x1), (2, vI x2)]) dX12_reads_155 (by decide) rfl ?_
            obtain ⟨bd885, hbd885, hF⟩ := lop2_ex hF
            refine x_loop (I := fun x : Int × (Nat → Nat → Int) => match x with | (z883, V885) => (0 ≤ z883 ∧ z883 ≤ 14) ∧ MU G V885 ∧ FBm 2417261343418899643768816 V V885 ∧ RT x1 (V622 0 10) z883 V622 V885 ∧ z883 ≤ z624 ∧ V885 0 5 = z617 ∧ V885 0 6 = z618 ∧ V885 0 4 = 0 ∧ V885 0 10 = z623 ∧ V885 0 12 = z624 ∧ V885 12 x1.toNat = z624 ∧ (∃ nf : Nat, (15 - z883).toNat < nf ∧ Imp (lop2 nf bd885 z883 V885) (f_m_reads x1 x2 V J Rr))) (μ := fun x : Int × (Nat → Nat → Int) => match x with | (z883, V885) => (15 - z883).toNat) (wsf := fun x : Int × (Nat → Nat → Int) => match x with | (z883, V885) => MW cy ad V885 J Rr) (lvf := fun x : Int × (Nat → Nat → Int) => match x with | (z883, V885) => [(5, vI z883), (4, vI (220 * x1)), (3, vI z611), (0, .ref (ad 0)), (1, vI x1), (2, vI x2)]) (fun x hI885x ih885 => ?_) (0, V795) ⟨⟨by decide, by decide⟩, hI795, hB795, hrt0, (by omega), hk794_0, hk794_1, hk794_2, hk794_3, hk794_4, hk794_5, ⟨_, (by omega), hF⟩⟩ rfl rfl
            obtain ⟨z883, V885⟩ := x
            obtain ⟨bz883, hI885, hB885, hrt, hjs, hk884_0, hk884_1, hk884_2, hk884_3, hk884_4, hk884_5, nf885, hn885, hF⟩ := hI885x
            try dsimp only
            obtain ⟨nf885, rfl⟩ : ∃ mm, nf885 = mm + 1 := ⟨nf885 - 1, (Nat.succ_pred_eq_of_pos (Nat.lt_of_le_of_lt (Nat.zero_le _) hn885)).symm⟩
            replace hF := hF.to (lop2_s hbd885)
            refine x_iload C.1 dX12_reads_157 0 rfl ?_
            refine x_aload_n C.1 dX12_reads_159 3 rfl ?_
            refine x_getI C (N := 33) (i := 0) (by decide) rfl vc_X12 wx_X12 12 (by decide) wf_X12_225 rfl dX12_reads_160 (a := z624) hk884_4 ?_
            refine x_icmp_ge C.1 (tgt := 257) dX12_reads_163 (by decide) (by omega) (by omega) (fun hc895 => ?_) (fun hc895 => ?_)
            · replace hF := hF.to (if_pos hc895)
              refine x_aload_n C.1 dX12_reads_257 3 rfl ?_
              refine x_getI C (N := 33) (i := 0) (by decide) rfl vc_X12 wx_X12 12 (by decide) wf_X12_225 rfl dX12_reads_258 (a := z624) hk884_4 ?_
              exact x_iret (S := (Nat → Nat → Int)) (post := (fun a (u : Nat → Nat → Int) => MI u u ∧ WP u ∧ FBm 2417261343418899643768816 V u ∧ (f_m_reads x1 x2 V J Rr) (a, u))) (w1 := (fun u : Nat → Nat → Int => MW cy ad u J Rr)) (a := z624) C hr rfl dX12_reads_261 (by omega) V885 rfl ⟨hI885, (RT.wp (by rw [ez624, show z624 = z883 by omega]; exact hrt) bx1 hTA hWA), hB885, hF _ rfl⟩
            · replace hF := hF.to (if_neg hc895)
              obtain ⟨z896, ez896, bz896⟩ := hI885.rd 7 z883.toNat (x := -2147483648) (y := 2147483647) rfl
              replace hF := hF.to (rdb_e (z := z896) ez896)
              obtain ⟨z897, ez897, bz897⟩ := hI885.rd 8 z883.toNat (x := -2147483648) (y := 2147483647) rfl
              replace hF := hF.to (rdb_e (z := z897) ez897)
              obtain ⟨z898, ez898, bz898⟩ := hI885.rd 9 z883.toNat (x := -2147483648) (y := 2147483647) rfl
              replace hF := hF.to (rdb_e (z := z898) ez898)
              obtain ⟨z899, ez899, bz899⟩ := hI885.rd 10 z883.toNat (x := -2147483648) (y := 2147483647) rfl
              replace hF := hF.to (rdb_e (z := z899) ez899)
              have hcj := hTA.2 z883.toNat (by rw [ez624]; omega)
              unfold pCls at hcj
              rw [← hrt.2.2.2.2.2.2 8 (by decide), ← hrt.2.2.2.2.2.2 9 (by decide), ← hrt.2.2.2.2.2.2 10 (by decide), ez897, ez898, ez899, ez623] at hcj
              obtain ⟨hb1, hb2, hb3, hb4, -, -⟩ := hcj
              have hbb : (0 ≤ z897 ∧ z897 ≤ 200) ∧ (0 ≤ z898 ∧ z898 ≤ 200) ∧ (0 ≤ z899 ∧ z899 ≤ 200) := by omega
              refine x_aload_n C.1 dX12_reads_166 3 rfl ?_
              refine x_getA C (N := 33) (i := 0) (by decide) rfl vc_X12 wx_X12 21 (by decide) wf_X12_47 (a := 13) rfl dX12_reads_167 ?_
              refine x_bipush C.1 (n := 14) dX12_reads_170 ?_
              refine x_iload_n C.1 dX12_reads_172 4 rfl ?_
              refine x_imul C.1 (v := 14 * x1) (by omega) dX12_reads_173 ?_
              refine x_iload C.1 dX12_reads_174 0 rfl ?_
              refine x_iadd C.1 (v := 14 * x1 + z883) (by omega) dX12_reads_176 ?_
              refine x_aload_n C.1 dX12_reads_177 3 rfl ?_
              refine x_getA C (N := 33) (i := 0) (by decide) rfl vc_X12 wx_X12 15 (by decide) wf_X12_29 (a := 7) rfl dX12_reads_178 ?_
              refine x_iload C.1 dX12_reads_181 0 rfl ?_
              refine x_iald C (N := 33) (i := 7) (q := z883) (by decide) rfl (by omega) (by decide) dX12_reads_183 (a := z896) ez896 ?_
              refine x_iast C (N := 33) (i := 13) (q := 14 * x1 + z883) (a := z896) (by decide) rfl (by omega) (by decide) dX12_reads_184 ?_
              refine x_gV ?_
              intro V900 hV900
              have hI900 : MU G V900 := hI885.up hV900 rfl (by omega) trivial (Or.inl (by decide))
              have hB900 := hB885.up hV900 (by rw [mkey_r (by decide)]; rfl)
              replace hF := hF.to (rdb_e (z := V900) hV900.symm)
              refine x_aload_n C.1 dX12_reads_185 3 rfl ?_
              refine x_getA C (N := 33) (i := 0) (by decide) rfl vc_X12 wx_X12 22 (by decide) wf_X12_50 (a := 14) rfl dX12_reads_186 ?_
              refine x_bipush C.1 (n := 14) dX12_reads_189 ?_
              refine x_iload_n C.1 dX12_reads_191 4 rfl ?_
              refine x_imul C.1 (v := 14 * x1) (by omega) dX12_reads_192 ?_
              refine x_iload C.1 dX12_reads_193 0 rfl ?_
              refine x_iadd C.1 (v := 14 * x1 + z883) (by omega) dX12_reads_195 ?_
              refine x_iload C.1 dX12_reads_196 1 rfl ?_
              refine x_aload_n C.1 dX12_reads_198 3 rfl ?_
              refine x_getA C (N := 33) (i := 0) (by decide) rfl vc_X12 wx_X12 16 (by decide) wf_X12_32 (a := 8) rfl dX12_reads_199 ?_
              refine x_iload C.1 dX12_reads_202 0 rfl ?_
              refine x_iald C (N := 33) (i := 8) (q := z883) (by decide) rfl (by omega) (by decide) dX12_reads_204 (a := z897) ((congrFun (congrFun hV900 8) z883.toNat).trans ((up2_n _ _ (Or.inl (by decide))).trans ez897)) ?_
              refine x_iadd C.1 (v := 220 * x1 + z897) (by omega) dX12_reads_205 ?_
              refine x_iast C (N := 33) (i := 14) (q := 14 * x1 + z883) (a := 220 * x1 + z897) (by decide) rfl (by omega) (by decide) dX12_reads_206 ?_
              refine x_gV ?_
              intro V901 hV901
              have hI901 : MU G V901 := hI900.up hV901 rfl (by omega) trivial (Or.inl (by decide))
              have hB901 := hB900.up hV901 (by rw [mkey_r (by decide)]; rfl)
              replace hF := hF.to (rdb_e (z := V901) hV901.symm)
              refine x_aload_n C.1 dX12_reads_207 3 rfl ?_
              refine x_getA C (N := 33) (i := 0) (by decide) rfl vc_X12 wx_X12 23 (by decide) wf_X12_53 (a := 15) rfl dX12_reads_208 ?_
              refine x_bipush C.1 (n := 14) dX12_reads_211 ?_
              refine x_iload_n C.1 dX12_reads_213 4 rfl ?_
              refine x_imul C.1 (v := 14 * x1) (by omega) dX12_reads_214 ?_
              refine x_iload C.1 dX12_reads_215 0 rfl ?_
              refine x_iadd C.1 (v := 14 * x1 + z883) (by omega) dX12_reads_217 ?_
              refine x_iload C.1 dX12_reads_218 1 rfl ?_
              refine x_aload_n C.1 dX12_reads_220 3 rfl ?_
              refine x_getA C (N := 33) (i := 0) (by decide) rfl vc_X12 wx_X12 17 (by decide) wf_X12_35 (a := 9) rfl dX12_reads_221 ?_
              refine x_iload C.1 dX12_reads_224 0 rfl ?_
              refine x_iald C (N := 33) (i := 9) (q := z883) (by decide) rfl (by omega) (by decide) dX12_reads_226 (a := z898) ((congrFun (congrFun hV901 9) z883.toNat).trans ((up2_n _ _ (Or.inl (by decide))).trans ((congrFun (congrFun hV900 9) z883.toNat).trans ((up2_n _ _ (Or.inl (by decide))).trans ez898)))) ?_
              refine x_iadd C.1 (v := 220 * x1 + z898) (by omega) dX12_reads_227 ?_
              refine x_iast C (N := 33) (i := 15) (q := 14 * x1 + z883) (a := 220 * x1 + z898) (by decide) rfl (by omega) (by decide) dX12_reads_228 ?_
              refine x_gV ?_
              intro V902 hV902
              have hI902 : MU G V902 := hI901.up hV902 rfl (by omega) trivial (Or.inl (by decide))
              have hB902 := hB901.up hV902 (by rw [mkey_r (by decide)]; rfl)
              replace hF := hF.to (rdb_e (z := V902) hV902.symm)
              refine x_aload_n C.1 dX12_reads_229 3 rfl ?_
              refine x_getA C (N := 33) (i := 0) (by decide) rfl vc_X12 wx_X12 24 (by decide) wf_X12_56 (a := 16) rfl dX12_reads_230 ?_
              refine x_bipush C.1 (n := 14) dX12_reads_233 ?_
              refine x_iload_n C.1 dX12_reads_235 4 rfl ?_
              refine x_imul C.1 (v := 14 * x1) (by omega) dX12_reads_236 ?_
              refine x_iload C.1 dX12_reads_237 0 rfl ?_
              refine x_iadd C.1 (v := 14 * x1 + z883) (by omega) dX12_reads_239 ?_
              refine x_iload C.1 dX12_reads_240 1 rfl ?_
              refine x_aload_n C.1 dX12_reads_242 3 rfl ?_
              refine x_getA C (N := 33) (i := 0) (by decide) rfl vc_X12 wx_X12 18 (by decide) wf_X12_38 (a := 10) rfl dX12_reads_243 ?_
              refine x_iload C.1 dX12_reads_246 0 rfl ?_
              refine x_iald C (N := 33) (i := 10) (q := z883) (by decide) rfl (by omega) (by decide) dX12_reads_248 (a := z899) ((congrFun (congrFun hV902 10) z883.toNat).trans ((up2_n _ _ (Or.inl (by decide))).trans ((congrFun (congrFun hV901 10) z883.toNat).trans ((up2_n _ _ (Or.inl (by decide))).trans ((congrFun (congrFun hV900 10) z883.toNat).trans ((up2_n _ _ (Or.inl (by decide))).trans ez899)))))) ?_
              refine x_iadd C.1 (v := 220 * x1 + z899) (by omega) dX12_reads_249 ?_
              refine x_iast C (N := 33) (i := 16) (q := 14 * x1 + z883) (a := 220 * x1 + z899) (by decide) rfl (by omega) (by decide) dX12_reads_250 ?_
              refine x_gV ?_
              intro V903 hV903
              have hI903 : MU G V903 := hI902.up hV903 rfl (by omega) trivial (Or.inl (by decide))
              have hB903 := hB902.up hV903 (by rw [mkey_r (by decide)]; rfl)
              replace hF := hF.to (rdb_e (z := V903) hV903.symm)
              refine x_iinc C.1 (v := z883 + 1) (lv' := [(5, vI (z883 + 1)), (4, vI (220 * x1)), (3, vI z611), (0, .ref (ad 0)), (1, vI x1), (2, vI x2)]) (by omega) dX12_reads_251 0 rfl (by decide) rfl ?_
              refine x_goto C.1 (tgt := 157) dX12_reads_254 (by decide) ?_
              have hmu885 : (15 - (z883 + 1)).toNat < (15 - z883).toNat := (by omega)
              exact ih885 (z883 + 1, V903) ⟨⟨by omega, by omega⟩, hI903, hB903, (RT.step (c := z896) hrt bx1.1 ⟨by omega, by omega⟩ (by rw [hV903, hV902, hV901, hV900, ← hrt.2.2.2.2.2.2 8 (by decide), ← hrt.2.2.2.2.2.2 9 (by decide), ← hrt.2.2.2.2.2.2 10 (by decide), ez897, ez898, ez899])), (by omega), ((congrFun (congrFun hV903 0) 5).trans ((up2_n _ _ (Or.inl (by decide))).trans ((congrFun (congrFun hV902 0) 5).trans ((up2_n _ _ (Or.inl (by decide))).trans ((congrFun (congrFun hV901 0) 5).trans ((up2_n _ _ (Or.inl (by decide))).trans ((congrFun (congrFun hV900 0) 5).trans ((up2_n _ _ (Or.inl (by decide))).trans hk884_0)))))))), ((congrFun (congrFun hV903 0) 6).trans ((up2_n _ _ (Or.inl (by decide))).trans ((congrFun (congrFun hV902 0) 6).trans ((up2_n _ _ (Or.inl (by decide))).trans ((congrFun (congrFun hV901 0) 6).trans ((up2_n _ _ (Or.inl (by decide))).trans ((congrFun (congrFun hV900 0) 6).trans ((up2_n _ _ (Or.inl (by decide))).trans hk884_1)))))))), ((congrFun (congrFun hV903 0) 4).trans ((up2_n _ _ (Or.inl (by decide))).trans ((congrFun (congrFun hV902 0) 4).trans ((up2_n _ _ (Or.inl (by decide))).trans ((congrFun (congrFun hV901 0) 4).trans ((up2_n _ _ (Or.inl (by decide))).trans ((congrFun (congrFun hV900 0) 4).trans ((up2_n _ _ (Or.inl (by decide))).trans hk884_2)))))))), ((congrFun (congrFun hV903 0) 10).trans ((up2_n _ _ (Or.inl (by decide))).trans ((congrFun (congrFun hV902 0) 10).trans ((up2_n _ _ (Or.inl (by decide))).trans ((congrFun (congrFun hV901 0) 10).trans ((up2_n _ _ (Or.inl (by decide))).trans ((congrFun (congrFun hV900 0) 10).trans ((up2_n _ _ (Or.inl (by decide))).trans hk884_3)))))))), ((congrFun (congrFun hV903 0) 12).trans ((up2_n _ _ (Or.inl (by decide))).trans ((congrFun (congrFun hV902 0) 12).trans ((up2_n _ _ (Or.inl (by decide))).trans ((congrFun (congrFun hV901 0) 12).trans ((up2_n _ _ (Or.inl (by decide))).trans ((congrFun (congrFun hV900 0) 12).trans ((up2_n _ _ (Or.inl (by decide))).trans hk884_4)))))))), ((congrFun (congrFun hV903 12) x1.toNat).trans ((up2_n _ _ (Or.inl (by decide))).trans ((congrFun (congrFun hV902 12) x1.toNat).trans ((up2_n _ _ (Or.inl (by decide))).trans ((congrFun (congrFun hV901 12) x1.toNat).trans ((up2_n _ _ (Or.inl (by decide))).trans ((congrFun (congrFun hV900 12) x1.toNat).trans ((up2_n _ _ (Or.inl (by decide))).trans hk884_5)))))))), ⟨nf885, Nat.lt_of_lt_of_le hmu885 (Nat.le_of_lt_succ hn885), hF⟩⟩ hmu885
          · replace hF := hF.to (if_neg hc853)
            refine x_aload_n C.1 dX12_reads_131 3 rfl ?_
            refine x_getA C (N := 33) (i := 0) (by decide) rfl vc_X12 wx_X12 19 (by decide) wf_X12_41 (a := 11) rfl dX12_reads_132 ?_
            refine x_iload C.1 dX12_reads_135 1 rfl ?_
            refine x_iload C.1 dX12_reads_137 0 rfl ?_
            refine x_iadd C.1 (v := 220 * x1 + z793) (by omega) dX12_reads_139 ?_
            refine x_aload_n C.1 dX12_reads_140 3 rfl ?_
            refine x_getA C (N := 33) (i := 0) (by decide) rfl vc_X12 wx_X12 13 (by decide) wf_X12_23 (a := 5) rfl dX12_reads_141 ?_
            refine x_iload C.1 dX12_reads_144 0 rfl ?_
            obtain ⟨z904, ez904, bz904⟩ := hI795.rd 5 z793.toNat (x := -2147483648) (y := 2147483647) rfl
            replace hF := hF.to (rdb_e (z := z904) ez904)
            refine x_iald C (N := 33) (i := 5) (q := z793) (by decide) rfl (by omega) (by decide) dX12_reads_146 (a := z904) ez904 ?_
            refine x_iast C (N := 33) (i := 11) (q := 220 * x1 + z793) (a := z904) (by decide) rfl (by omega) (by decide) dX12_reads_147 ?_
            refine x_gV ?_
            intro V905 hV905
            have hI905 : MU G V905 := hI795.up hV905 rfl (by omega) trivial (Or.inl (by decide))
            have hB905 := hB795.up hV905 (by rw [mkey_r (by decide)]; rfl)
            replace hF := hF.to (rdb_e (z := V905) hV905.symm)
            refine x_iinc C.1 (v := z793 + 1) (lv' := [(5, vI (z793 + 1)), (4, vI (220 * x1)), (3, vI z611), (0, .ref (ad 0)), (1, vI x1), (2, vI x2)]) (by omega) dX12_reads_148 0 rfl (by decide) rfl ?_
            refine x_goto C.1 (tgt := 122) dX12_reads_151 (by decide) ?_
            have hmu795 : (221 - (z793 + 1)).toNat < (221 - z793).toNat := (by omega)
            exact ih795 (z793 + 1, V905) ⟨⟨by omega, by omega⟩, hI905, hB905, (RC.step hrc bx1.1 ⟨by omega, by omega⟩ (by rw [hV905, ← hrc.2.2.2.2 5 (by decide) (by decide), ez904])), (by omega), ((congrFun (congrFun hV905 0) 5).trans ((up2_n _ _ (Or.inl (by decide))).trans hk794_0)), ((congrFun (congrFun hV905 0) 6).trans ((up2_n _ _ (Or.inl (by decide))).trans hk794_1)), ((congrFun (congrFun hV905 0) 4).trans ((up2_n _ _ (Or.inl (by decide))).trans hk794_2)), ((congrFun (congrFun hV905 0) 10).trans ((up2_n _ _ (Or.inl (by decide))).trans hk794_3)), ((congrFun (congrFun hV905 0) 12).trans ((up2_n _ _ (Or.inl (by decide))).trans hk794_4)), ((congrFun (congrFun hV905 12) x1.toNat).trans ((up2_n _ _ (Or.inl (by decide))).trans hk794_5)), ⟨nf795, Nat.lt_of_lt_of_le hmu795 (Nat.le_of_lt_succ hn795), hF⟩⟩ hmu795
        · replace hF := hF.to (if_neg hc621)
          refine x_aload_n C.1 dX12_reads_62 1 rfl ?_
          refine x_bipush C.1 (n := 59) dX12_reads_63 ?_
          refine x_callVi C (As := [vI 59]) (rest := []) 0 (xw_at (N := 33) (i := 0) (by decide) rfl) vc_X12 (m_takes l D cy ad G V613 J Rr hI613 hJ hR 59 ⟨by decide, by decide⟩) (l1 := []) (l2 := []) (List.append_nil _).symm (w2 := fun u : Nat → Nat → Int => MW cy ad u J Rr) (fun _ => List.append_nil _) rfl wm_yX12_takes wn_X12 wl_X12_234 wi_yX12_takes we_yX12_takes hd_yX12_takes rfl ⟨Nat.le_of_ble_eq_true rfl, Nat.le_of_ble_eq_true rfl⟩ (Nat.le_of_ble_eq_true rfl) ⟨Nat.le_of_ble_eq_true rfl, Nat.le_of_ble_eq_true rfl⟩ dX12_reads_65 (fun z906 V906 bz906 h906 => ?_)
          obtain ⟨hI906, bq906, hx906_0, hx906_1, hx906_2, hBc906, hFc906⟩ := h906
          replace hF := calVM_i hF hFc906 hBc906
          replace hF := hF.fc bq906
          have hB906 := hB613.tr hBc906 (m := 160) rfl
          obtain ⟨z907, ez907, bz907⟩ := hI906.rd 0 5 (x := 0) (y := 220) rfl
          replace hF := hF.to (rdb_e (z := z907) ez907)
          replace hF := hF.fc bz907
          rw [ez907, ez617] at hx906_0 hx906_1
          refine x_if_eq C.1 (tgt := 83) dX12_reads_68 (by decide) (by omega) (fun hc908 => ?_) (fun hc908 => ?_)
          · replace hF := hF.to (if_pos hc908)
            refine x_iconst C.1 (n := 0) dX12_reads_83 ?_
            refine x_istore_n C.1 (lv' := [(3, vI 0), (0, .ref (ad 0)), (1, vI x1), (2, vI x2)]) dX12_reads_84 (by decide) rfl ?_
            refine x_goto C.1 (tgt := 47) dX12_reads_85 (by decide) ?_
            have hm1 := ez617
            have hm2 := ez618
            have hmu613 : gmu 0 (V906 0 6 - V906 0 5) < gmu z611 (V613 0 6 - V613 0 5) := (by first | exact gmu_0 (by omega) (by omega) | exact gmu_1 (by omega) (by omega) (by omega))
            exact ih613 (0, V906) ⟨⟨by decide, by decide⟩, hI906, hB906, (Or.inl rfl), ⟨nf613, Nat.lt_of_lt_of_le hmu613 (Nat.le_of_lt_succ hn613), hF⟩⟩ hmu613
          · replace hF := hF.to (if_neg hc908)
            have hon909 := Sp.on hx906_0 (by omega)
            have hT2 := hT1.tk hx906_2 (by rw [ez907, ez617]; omega) (by rw [ez907, ((hx906_2 (0) (6) (Or.inr (by decide))).trans ez618)]; omega)
            refine x_aload_n C.1 dX12_reads_71 1 rfl ?_
            refine x_iload_n C.1 dX12_reads_72 2 rfl ?_
            refine x_callVi C (As := [vI x1]) (rest := []) 0 (xw_at (N := 33) (i := 0) (by decide) rfl) vc_X12 (m_readsClause l D cy ad G V906 J Rr hI906 hJ hR x1 ⟨by omega, by omega⟩ hT2) (l1 := []) (l2 := []) (List.append_nil _).symm (w2 := fun u : Nat → Nat → Int => MW cy ad u J Rr) (fun _ => List.append_nil _) rfl wm_yX12_readsClause wn_X12 wl_X12_231 wi_yX12_readsClause we_yX12_readsClause hd_yX12_readsClause rfl ⟨Nat.le_of_ble_eq_true rfl, Nat.le_of_ble_eq_true rfl⟩ (Nat.le_of_ble_eq_true rfl) ⟨Nat.le_of_ble_eq_true rfl, Nat.le_of_ble_eq_true rfl⟩ dX12_reads_73 (fun z910 V910 bz910 h910 => ?_)
            obtain ⟨hI910, bq910, hx910_0, hBc910, hFc910⟩ := h910
            replace hF := calVM_i hF hFc910 hBc910
            replace hF := hF.fc bq910
            have hB910 := hB906.tr hBc910 (m := 37188636052598456065952) rfl
            refine x_if_eq C.1 (tgt := 83) dX12_reads_76 (by decide) (by omega) (fun hc911 => ?_) (fun hc911 => ?_)
            · replace hF := hF.to (if_pos hc911)
              refine x_iconst C.1 (n := 0) dX12_reads_83 ?_
              refine x_istore_n C.1 (lv' := [(3, vI 0), (0, .ref (ad 0)), (1, vI x1), (2, vI x2)]) dX12_reads_84 (by decide) rfl ?_
              refine x_goto C.1 (tgt := 47) dX12_reads_85 (by decide) ?_
              have hm1 := ez617
              have hm2 := ez618
              have hmu613 : gmu 0 (V910 0 6 - V910 0 5) < gmu z611 (V613 0 6 - V613 0 5) := (by first | exact gmu_0 (by omega) (by omega) | exact gmu_1 (by omega) (by omega) (by omega))
              exact ih613 (0, V910) ⟨⟨by decide, by decide⟩, hI910, hB910, (Or.inl rfl), ⟨nf613, Nat.lt_of_lt_of_le hmu613 (Nat.le_of_lt_succ hn613), hF⟩⟩ hmu613
            · replace hF := hF.to (if_neg hc911)
              have hon912 := Sp.on hx910_0 (by omega)
              refine x_iconst C.1 (n := 1) dX12_reads_79 ?_
              refine x_goto C.1 (tgt := 84) dX12_reads_80 (by decide) ?_
              refine x_istore_n C.1 (lv' := [(3, vI 1), (0, .ref (ad 0)), (1, vI x1), (2, vI x2)]) dX12_reads_84 (by decide) rfl ?_
              refine x_goto C.1 (tgt := 47) dX12_reads_85 (by decide) ?_
              have hm1 := ez617
              have hm2 := ez618
              have hm3 := hon912.2.1
              have hm4 := hon912.2.2.1
              have hm5 := ez907
              have hm6 := ((hx906_2 (0) (6) (Or.inr (by decide))).trans ez618)
              have hmu613 : gmu 1 (V910 0 6 - V910 0 5) < gmu z611 (V613 0 6 - V613 0 5) := (by first | exact gmu_0 (by omega) (by omega) | exact gmu_1 (by omega) (by omega) (by omega))
              exact ih613 (1, V910) ⟨⟨by decide, by decide⟩, hI910, hB910, (Or.inr hon912.1), ⟨nf613, Nat.lt_of_lt_of_le hmu613 (Nat.le_of_lt_succ hn613), hF⟩⟩ hmu613
    · replace hF := hF.to (if_neg hc5)
      refine x_iconst C.1 (n := -1) dX12_reads_19 ?_
      exact x_iret (S := (Nat → Nat → Int)) (post := (fun a (u : Nat → Nat → Int) => MI u u ∧ WP u ∧ FBm 2417261343418899643768816 V u ∧ (f_m_reads x1 x2 V J Rr) (a, u))) (w1 := (fun u : Nat → Nat → Int => MW cy ad u J Rr)) (a := (-1)) C hr rfl dX12_reads_20 (by decide) V rfl ⟨hI.sf, (WP.of hI hW), hB, hF _ rfl⟩
theorem hd_yX12_reads : yX12_reads.cls ≠ "java/lang/invoke/MethodHandle" ∧ yX12_reads.cls ≠ "java/lang/invoke/VarHandle" ∧ (parseMethodDescriptor yX12_reads.desc).map (fun d => d.parameters.length) = some 2 := by decide +kernel
theorem dX12_law_0 : decode cX12_law 0 = .ok (.aload_n 0, 1) := by decide +kernel
theorem dX12_law_1 : decode cX12_law 1 = .ok (.iconst 0, 1) := by decide +kernel
theorem dX12_law_2 : decode cX12_law 2 = .ok (.iload_n 1, 1) := by decide +kernel
theorem dX12_law_3 : decode cX12_law 3 = .ok (.invokevirtual 237, 3) := by decide +kernel
theorem dX12_law_6 : decode cX12_law 6 = .ok (.ireturn, 1) := by decide +kernel
set_option maxRecDepth 100000 in
def f_m_law (x1 : Int) (V : Nat → Nat → Int) (J : Nat → Nat → Int) (Rr : Nat → Nat → Nat) : (Int × (Nat → Nat → Int)) → Prop :=
  calVM 2417261343418899643768816 V (f_m_reads 0 x1 V J Rr) fun z1 V1 => rtn (z1, V1)
set_option maxHeartbeats 8000000 in
set_option maxRecDepth 100000 in
theorem m_law (l : Launch) (D : va_G) (cy : Nat → ClassId) (ad : Nat → Nat) (G : Nat → Nat → Int) (V J : Nat → Nat → Int) (Rr : Nat → Nat → Nat) (hI : MI G V) (hJ : VJ J) (hR : MR Rr) (x1 : Int) (bx1 : -2147483648 ≤ x1 ∧ x1 ≤ 2147483647) (hW : WP G) : xMi l D (xTY cy) yX12_law cX12_law 2 (some .int) 9 192 0 0 [.ref (ad 0), vI x1] (MW cy ad V J Rr) (fun u : Nat → Nat → Int => MW cy ad u J Rr) (fun a (u : Nat → Nat → Int) => MI u u ∧ WP u ∧ FBm 2417261343418899643768816 V u ∧ (f_m_law x1 V J Rr) (a, u)) := by
  refine xMi.mk (lv0 := [(0, .ref (ad 0)), (1, vI x1)]) (by decide) rfl (Nat.le_of_ble_eq_true rfl) (fun p e s m below meth c A C hr hnm hAe => ?_)
  have C : xC2 p s m _ meth c D A s.heap 2 cX12_law RX12 (xTY cy) := C
  have hB : FBm 2417261343418899643768816 V V := FBm.rf _ _
  have hF := Imp.of_eq (f_m_law.eq_def x1 V J Rr)
  refine x_aload_n C.1 dX12_law_0 0 rfl ?_
  refine x_iconst C.1 (n := 0) dX12_law_1 ?_
  refine x_iload_n C.1 dX12_law_2 1 rfl ?_
  refine x_callVi C (As := [vI 0, vI x1]) (rest := []) 0 (xw_at (N := 33) (i := 0) (by decide) rfl) vc_X12 (m_reads l D cy ad G V J Rr hI hJ hR 0 ⟨by decide, by decide⟩ x1 ⟨by omega, by omega⟩ hW) (l1 := []) (l2 := []) (List.append_nil _).symm (w2 := fun u : Nat → Nat → Int => MW cy ad u J Rr) (fun _ => List.append_nil _) rfl wm_yX12_reads wn_X12 wl_X12_237 wi_yX12_reads we_yX12_reads hd_yX12_reads rfl ⟨Nat.le_of_ble_eq_true rfl, Nat.le_of_ble_eq_true rfl⟩ (Nat.le_of_ble_eq_true rfl) ⟨Nat.le_of_ble_eq_true rfl, Nat.le_of_ble_eq_true rfl⟩ dX12_law_3 (fun z1 V1 bz1 h1 => ?_)
  obtain ⟨hI1, hx1_0, hBc1, hFc1⟩ := h1
  replace hF := calVM_i hF hFc1 hBc1
  have hB1 := hB.tr hBc1 (m := 2417261343418899643768816) rfl
  exact x_iret (S := (Nat → Nat → Int)) (post := (fun a (u : Nat → Nat → Int) => MI u u ∧ WP u ∧ FBm 2417261343418899643768816 V u ∧ (f_m_law x1 V J Rr) (a, u))) (w1 := (fun u : Nat → Nat → Int => MW cy ad u J Rr)) (a := z1) C hr rfl dX12_law_6 (by omega) V1 rfl ⟨hI1, hx1_0, hB1, hF _ rfl⟩
theorem dX12_rule_0 : decode cX12_rule 0 = .ok (.iload_n 1, 1) := by decide +kernel
theorem dX12_rule_1 : decode cX12_rule 1 = .ok (.iconst 0, 1) := by decide +kernel
theorem dX12_rule_2 : decode cX12_rule 2 = .ok (.iconst 3, 1) := by decide +kernel
theorem dX12_rule_3 : decode cX12_rule 3 = .ok (.invokestatic 126, 3) := by decide +kernel
theorem dX12_rule_6 : decode cX12_rule 6 = .ok (.ifCond .eq 14, 3) := by decide +kernel
theorem dX12_rule_9 : decode cX12_rule 9 = .ok (.aload_n 0, 1) := by decide +kernel
theorem dX12_rule_10 : decode cX12_rule 10 = .ok (.iload_n 1, 1) := by decide +kernel
theorem dX12_rule_11 : decode cX12_rule 11 = .ok (.iconst 1, 1) := by decide +kernel
theorem dX12_rule_12 : decode cX12_rule 12 = .ok (.iadd, 1) := by decide +kernel
theorem dX12_rule_13 : decode cX12_rule 13 = .ok (.iload_n 2, 1) := by decide +kernel
theorem dX12_rule_14 : decode cX12_rule 14 = .ok (.invokevirtual 237, 3) := by decide +kernel
theorem dX12_rule_17 : decode cX12_rule 17 = .ok (.goto 4, 3) := by decide +kernel
theorem dX12_rule_20 : decode cX12_rule 20 = .ok (.iconst (-1), 1) := by decide +kernel
theorem dX12_rule_21 : decode cX12_rule 21 = .ok (.ireturn, 1) := by decide +kernel
set_option maxRecDepth 100000 in
def f_m_rule (x1 : Int) (x2 : Int) (V : Nat → Nat → Int) (J : Nat → Nat → Int) (Rr : Nat → Nat → Nat) : (Int × (Nat → Nat → Int)) → Prop :=
  calR (f_m_in x1 0 3) fun z1 => fct (0 ≤ z1 ∧ z1 ≤ 1) <| (if z1 = 0 then rtn ((-1), V) else calVM 2417261343418899643768816 V (f_m_reads (x1 + 1) x2 V J Rr) fun z4 V4 => rtn (z4, V4))
set_option maxHeartbeats 8000000 in
set_option maxRecDepth 100000 in
theorem m_rule (l : Launch) (D : va_G) (cy : Nat → ClassId) (ad : Nat → Nat) (G : Nat → Nat → Int) (V J : Nat → Nat → Int) (Rr : Nat → Nat → Nat) (hI : MI G V) (hJ : VJ J) (hR : MR Rr) (x1 : Int) (bx1 : -2147483648 ≤ x1 ∧ x1 ≤ 2147483647) (x2 : Int) (bx2 : -2147483648 ≤ x2 ∧ x2 ≤ 2147483647) (hW : WP G) : xMi l D (xTY cy) yX12_rule cX12_rule 3 (some .int) 9 192 0 0 [.ref (ad 0), vI x1, vI x2] (MW cy ad V J Rr) (fun u : Nat → Nat → Int => MW cy ad u J Rr) (fun a (u : Nat → Nat → Int) => MI u u ∧ WP u ∧ FBm 2417261343418899643768816 V u ∧ (f_m_rule x1 x2 V J Rr) (a, u)) := by
  refine xMi.mk (lv0 := [(0, .ref (ad 0)), (1, vI x1), (2, vI x2)]) (by decide) rfl (Nat.le_of_ble_eq_true rfl) (fun p e s m below meth c A C hr hnm hAe => ?_)
  have C : xC2 p s m _ meth c D A s.heap 3 cX12_rule RX12 (xTY cy) := C
  have hB : FBm 2417261343418899643768816 V V := FBm.rf _ _
  have hF := Imp.of_eq (f_m_rule.eq_def x1 x2 V J Rr)
  refine x_iload_n C.1 dX12_rule_0 1 rfl ?_
  refine x_iconst C.1 (n := 0) dX12_rule_1 ?_
  refine x_iconst C.1 (n := 3) dX12_rule_2 ?_
  refine x_callSi C (As := [vI x1, vI 0, vI 3]) (rest := []) (m_in l D cy x1 ⟨by omega, by omega⟩ 0 ⟨by decide, by decide⟩ 3 ⟨by decide, by decide⟩) (l1 := []) (l2 := _) rfl (w2 := fun _ => _) (fun _ => rfl) rfl wm_yX12_in wn_X12 wl_X12_126 wi_yX12_in hd_yX12_in rfl ⟨Nat.le_of_ble_eq_true rfl, Nat.le_of_ble_eq_true rfl⟩ (Nat.le_of_ble_eq_true rfl) ⟨Nat.le_of_ble_eq_true rfl, Nat.le_of_ble_eq_true rfl⟩ dX12_rule_3 (fun z1 u1 bz1 h1 => ?_)
  obtain ⟨bq1, hx1_0, hFc1⟩ := h1
  replace hF := calR_i hF hFc1
  replace hF := hF.fc bq1
  refine x_if_eq C.1 (tgt := 20) dX12_rule_6 (by decide) (by omega) (fun hc2 => ?_) (fun hc2 => ?_)
  · replace hF := hF.to (if_pos hc2)
    refine x_iconst C.1 (n := -1) dX12_rule_20 ?_
    exact x_iret (S := (Nat → Nat → Int)) (post := (fun a (u : Nat → Nat → Int) => MI u u ∧ WP u ∧ FBm 2417261343418899643768816 V u ∧ (f_m_rule x1 x2 V J Rr) (a, u))) (w1 := (fun u : Nat → Nat → Int => MW cy ad u J Rr)) (a := (-1)) C hr rfl dX12_rule_21 (by decide) V rfl ⟨hI.sf, (WP.of hI hW), hB, hF _ rfl⟩
  · replace hF := hF.to (if_neg hc2)
    have hon3 := Sq.on hx1_0 (by omega)
    refine x_aload_n C.1 dX12_rule_9 0 rfl ?_
    refine x_iload_n C.1 dX12_rule_10 1 rfl ?_
    refine x_iconst C.1 (n := 1) dX12_rule_11 ?_
    refine x_iadd C.1 (v := x1 + 1) (by omega) dX12_rule_12 ?_
    refine x_iload_n C.1 dX12_rule_13 2 rfl ?_
    refine x_callVi C (As := [vI (x1 + 1), vI x2]) (rest := []) 0 (xw_at (N := 33) (i := 0) (by decide) rfl) vc_X12 (m_reads l D cy ad G V J Rr hI hJ hR (x1 + 1) ⟨by omega, by omega⟩ x2 ⟨by omega, by omega⟩ hW) (l1 := []) (l2 := []) (List.append_nil _).symm (w2 := fun u : Nat → Nat → Int => MW cy ad u J Rr) (fun _ => List.append_nil _) rfl wm_yX12_reads wn_X12 wl_X12_237 wi_yX12_reads we_yX12_reads hd_yX12_reads rfl ⟨Nat.le_of_ble_eq_true rfl, Nat.le_of_ble_eq_true rfl⟩ (Nat.le_of_ble_eq_true rfl) ⟨Nat.le_of_ble_eq_true rfl, Nat.le_of_ble_eq_true rfl⟩ dX12_rule_14 (fun z4 V4 bz4 h4 => ?_)
    obtain ⟨hI4, hx4_0, hBc4, hFc4⟩ := h4
    replace hF := calVM_i hF hFc4 hBc4
    have hB4 := hB.tr hBc4 (m := 2417261343418899643768816) rfl
    refine x_goto C.1 (tgt := 21) dX12_rule_17 (by decide) ?_
    exact x_iret (S := (Nat → Nat → Int)) (post := (fun a (u : Nat → Nat → Int) => MI u u ∧ WP u ∧ FBm 2417261343418899643768816 V u ∧ (f_m_rule x1 x2 V J Rr) (a, u))) (w1 := (fun u : Nat → Nat → Int => MW cy ad u J Rr)) (a := z4) C hr rfl dX12_rule_21 (by omega) V4 rfl ⟨hI4, hx4_0, hB4, hF _ rfl⟩
end
section
-- numbers: wraps, bits (own work)
theorem wr_id {z : Int} (h : R32 z) : wr z = z := xi_toInt h
theorem wr_add (a b : Int) : wr (wr a + b) = wr (a + b) := by
  unfold wr
  rw [Int32.ofInt_add, Int32.ofInt_toInt, ← Int32.ofInt_add]
def bt (s l : Int) : Int := iAnd (iShr s l) 1
theorem bt_r (s l : Int) : 0 ≤ bt s l ∧ bt s l ≤ 1 := iAnd_leB _ (by decide)
def cnt (s : Int) : Int := bt s 0 + bt s 1 + bt s 2 + bt s 3 + bt s 4 + bt s 5 + bt s 6 + bt s 7
theorem bu_or : ∀ s : Nat, s < 256 → ∀ p : Nat, p < 8 → iOr (s : Int) (iShl 1 (p : Int)) = ((s ||| (1 <<< p) : Nat) : Int) := by decide +kernel
theorem bu_bt : ∀ s : Nat, s < 256 → ∀ p : Nat, p < 8 → bt (s : Int) (p : Int) = (((s >>> p) &&& 1 : Nat) : Int) := by decide +kernel
theorem bu_cl : ∀ s : Nat, s < 16 → ∀ p : Nat, p < 4 → iAnd (s : Int) (iXor (iShl 1 (p : Int)) (-1)) = ((s &&& (15 ^^^ (1 <<< p)) : Nat) : Int) := by decide +kernel
theorem bu_n : ∀ s : Nat, s < 256 → ∀ p : Nat, p < 8 → s ||| (1 <<< p) < 256 ∧ ∀ j : Nat, j < 8 → ((s ||| (1 <<< p)) >>> j) &&& 1 = if j = p then 1 else (s >>> j) &&& 1 := by decide +kernel
theorem bu_m : ∀ s : Nat, s < 16 → ∀ p : Nat, p < 4 → s ||| (1 <<< p) < 16 := by decide +kernel
theorem bu_c : ∀ s : Nat, s < 16 → ∀ p : Nat, p < 4 → s &&& (15 ^^^ (1 <<< p)) < 16 ∧ ∀ j : Nat, j < 4 → ((s &&& (15 ^^^ (1 <<< p))) >>> j) &&& 1 = if j = p then 0 else (s >>> j) &&& 1 := by decide +kernel
theorem bt_or {s p : Int} (hs : 0 ≤ s ∧ s < 256) (hp : 0 ≤ p ∧ p < 8) : (0 ≤ iOr s (iShl 1 p) ∧ iOr s (iShl 1 p) < 256) ∧ ∀ j : Int, 0 ≤ j ∧ j < 8 → bt (iOr s (iShl 1 p)) j = if j = p then 1 else bt s j := by
  obtain ⟨n, rfl⟩ : ∃ n : Nat, s = n := ⟨s.toNat, by omega⟩
  obtain ⟨q, rfl⟩ : ∃ q : Nat, p = q := ⟨p.toNat, by omega⟩
  have h := bu_n n (by omega) q (by omega)
  rw [bu_or n (by omega) q (by omega)]
  refine ⟨by omega, fun j hj => ?_⟩
  obtain ⟨i, rfl⟩ : ∃ i : Nat, j = i := ⟨j.toNat, by omega⟩
  rw [bu_bt _ h.1 i (by omega), h.2 i (by omega), bu_bt n (by omega) i (by omega)]
  by_cases e : i = q
  · rw [if_pos e, if_pos (by omega)]; rfl
  · rw [if_neg e, if_neg (by omega)]
theorem bt_or4 {s p : Int} (hs : 0 ≤ s ∧ s < 16) (hp : 0 ≤ p ∧ p < 4) : 0 ≤ iOr s (iShl 1 p) ∧ iOr s (iShl 1 p) < 16 := by
  obtain ⟨n, rfl⟩ : ∃ n : Nat, s = n := ⟨s.toNat, by omega⟩
  obtain ⟨q, rfl⟩ : ∃ q : Nat, p = q := ⟨p.toNat, by omega⟩
  have h := bu_m n (by omega) q (by omega)
  rw [bu_or n (by omega) q (by omega)]
  omega
theorem bt_cl {s p : Int} (hs : 0 ≤ s ∧ s < 16) (hp : 0 ≤ p ∧ p < 4) : (0 ≤ iAnd s (iXor (iShl 1 p) (-1)) ∧ iAnd s (iXor (iShl 1 p) (-1)) < 16) ∧ ∀ j : Int, 0 ≤ j ∧ j < 4 → bt (iAnd s (iXor (iShl 1 p) (-1))) j = if j = p then 0 else bt s j := by
  obtain ⟨n, rfl⟩ : ∃ n : Nat, s = n := ⟨s.toNat, by omega⟩
  obtain ⟨q, rfl⟩ : ∃ q : Nat, p = q := ⟨p.toNat, by omega⟩
  have h := bu_c n (by omega) q (by omega)
  rw [bu_cl n (by omega) q (by omega)]
  refine ⟨by omega, fun j hj => ?_⟩
  obtain ⟨i, rfl⟩ : ∃ i : Nat, j = i := ⟨j.toNat, by omega⟩
  rw [bu_bt _ (by omega) i (by omega), h.2 i (by omega), bu_bt n (by omega) i (by omega)]
  by_cases e : i = q
  · rw [if_pos e, if_pos (by omega)]; rfl
  · rw [if_neg e, if_neg (by omega)]
theorem cnt_or {s p : Int} (hs : 0 ≤ s ∧ s < 256) (hp : 0 ≤ p ∧ p < 8) : cnt (iOr s (iShl 1 p)) = cnt s + (1 - bt s p) := by
  have h := (bt_or hs hp).2
  have hc : p = 0 ∨ p = 1 ∨ p = 2 ∨ p = 3 ∨ p = 4 ∨ p = 5 ∨ p = 6 ∨ p = 7 := by omega
  unfold cnt
  rw [h 0 (by decide), h 1 (by decide), h 2 (by decide), h 3 (by decide), h 4 (by decide), h 5 (by decide), h 6 (by decide), h 7 (by decide)]
  rcases hc with rfl | rfl | rfl | rfl | rfl | rfl | rfl | rfl <;> simp <;> omega
theorem cnt_r (s : Int) : 0 ≤ cnt s ∧ cnt s ≤ 8 := by
  unfold cnt
  have h0 := bt_r s 0
  have h1 := bt_r s 1
  have h2 := bt_r s 2
  have h3 := bt_r s 3
  have h4 := bt_r s 4
  have h5 := bt_r s 5
  have h6 := bt_r s 6
  have h7 := bt_r s 7
  omega
end
section
-- what the relations of small methods say (own work)
theorem if_r {ρ : Type} {c : Prop} {dc : Decidable c} {A B : ρ → Prop} {r : ρ} : (@ite (ρ → Prop) c dc A B) r = ((c ∧ A r) ∨ (¬ c ∧ B r)) := by
  by_cases h : c
  · rw [if_pos h]; simp [h]
  · rw [if_neg h]; simp [h]
theorem Sq.eq {a b : Int} {P Q : Prop} (h : Sq a P) (k : Sq b Q) (e : P ↔ Q) : a = b := by
  rcases h with ⟨h, hp⟩ | ⟨h, hp⟩
  · rcases k with ⟨k, hq⟩ | ⟨k, hq⟩
    · omega
    · exact absurd (e.mp hp) hq
  · rcases k with ⟨k, hq⟩ | ⟨k, hq⟩
    · exact absurd (e.mpr hq) hp
    · omega
theorem lop3_g {α β γ ρ : Type} {n : Nat} {b : (α → β → γ → ρ → Prop) → α → β → γ → ρ → Prop} {x : α} {y : β} {z : γ} {r : ρ} (h : lop3 n b x y z r) : ∃ b2, b2 = b ∧ lop3 n b2 x y z r := ⟨b, rfl, h⟩
theorem lop2_g {α β ρ : Type} {n : Nat} {b : (α → β → ρ → Prop) → α → β → ρ → Prop} {x : α} {y : β} {r : ρ} (h : lop2 n b x y r) : ∃ b2, b2 = b ∧ lop2 n b2 x y r := ⟨b, rfl, h⟩
theorem lop1_g {α ρ : Type} {n : Nat} {b : (α → ρ → Prop) → α → ρ → Prop} {x : α} {r : ρ} (h : lop1 n b x r) : ∃ b2, b2 = b ∧ lop1 n b2 x r := ⟨b, rfl, h⟩
theorem rdb_g {α ρ : Type} {x : α} {k : α → ρ → Prop} {r : ρ} (h : rdb x k r) : ∃ z : α, x = z ∧ k z r := ⟨x, rfl, h⟩
theorem q_has {s l r : Int} (h : f_m_has s l r) : r = bt s l := by
  simp only [f_m_has, rdb, fct, rtn, if_r] at h
  obtain ⟨hr, ⟨h1, h2⟩ | ⟨h1, h2⟩⟩ := h
  · unfold bt; omega
  · unfold bt; omega
theorem q_mPlant {x r : Int} {V J : Nat → Nat → Int} {R : Nat → Nat → Nat} (h : f_m_isPlant x V J R r) : Sq r (0 ≤ x ∧ x < 4 ∧ bt (V 1 76) x = 1) := by
  simp only [f_m_isPlant, rdb, fct, rtn, calR, if_r] at h
  unfold Sq
  rcases h with ⟨h1, h⟩ | ⟨h1, ⟨h2, h⟩ | ⟨h2, z, hz, hr, h⟩⟩
  · omega
  · omega
  · have := q_has hz
    omega
theorem q_mLives {x r : Int} {V J : Nat → Nat → Int} {R : Nat → Nat → Nat} (h : f_m_lives x V J R r) : Sq r ((0 ≤ x ∧ x < 4 ∧ bt (V 1 76) x = 1) ∧ ¬ bt (V 1 77) x = 1) := by
  simp only [f_m_lives, rdb, fct, rtn, calR, if_r] at h
  obtain ⟨z, hz, hr, h⟩ := h
  have hq := q_mPlant hz
  have hb := bt_r (V 1 77) x
  unfold Sq at hq ⊢
  rcases h with ⟨h1, h⟩ | ⟨h1, y, hy, hr2, h⟩
  · omega
  · have := q_has hy
    omega
theorem q_mPerson {x r : Int} {V J : Nat → Nat → Int} {R : Nat → Nat → Nat} (h : f_m_isPerson x V J R r) : Sq r (0 ≤ x ∧ x < 8 ∧ bt (V 1 78) x = 1) := by
  simp only [f_m_isPerson, rdb, fct, rtn, calR, if_r] at h
  unfold Sq
  rcases h with ⟨h1, h⟩ | ⟨h1, ⟨h2, h⟩ | ⟨h2, z, hz, hr, h⟩⟩
  · omega
  · omega
  · have := q_has hz
    omega
theorem q_place {x y r : Int} (h : f_s_isPlace x y r) : Sq r (0 ≤ x ∧ x < y) := by
  simp only [f_s_isPlace, rtn, if_r] at h
  unfold Sq
  omega
theorem q_within {x y z r : Int} (h : f_s_isWithin x y z r) : Sq r (y ≤ x ∧ x ≤ z) := by
  simp only [f_s_isWithin, rtn, if_r] at h
  unfold Sq
  omega
theorem q_in {x y z r : Int} (h : f_m_in x y z r) : Sq r (y ≤ x ∧ x ≤ z) := by
  simp only [f_m_in, rtn, if_r] at h
  unfold Sq
  omega
theorem q_min {x y r : Int} (h : f_m_min x y r) : r = min x y := by
  simp only [f_m_min, rtn, if_r] at h
  omega
theorem q_max {x y r : Int} (h : f_m_max x y r) : r = max x y := by
  simp only [f_m_max, rtn, if_r] at h
  omega
theorem q_sPlant {b : Nat} {x r : Int} {V J : Nat → Nat → Int} {R : Nat → Nat → Nat} (h : f_s_isPlant b x V J R r) : Sq r (0 ≤ x ∧ x < 4 ∧ ¬ V (b + 3 + 2 * x.toNat) 0 = 0) := by
  simp only [f_s_isPlant, rdb, fct, rtn, calR, if_r] at h
  obtain ⟨z, hz, hr, h⟩ := h
  have hq := q_place hz
  unfold Sq at hq ⊢
  omega
/-- dead, as the first side has it -/
def dedX (c : Nat → Int) : Prop := ¬ c 0 = 0 ∧ (c 3 ≤ c 4 ∨ c 3 ≤ c 5)
theorem q_sDead {c : Nat} {r : Int} {V J : Nat → Nat → Int} {R : Nat → Nat → Nat} (h : f_s_isDeadP c V J R r) : Sq r (dedX (V c)) := by
  simp only [f_s_isDeadP, rdb, fct, rtn, if_r] at h
  unfold Sq dedX
  omega
theorem q_sAlive {b : Nat} {x r : Int} {V J : Nat → Nat → Int} {R : Nat → Nat → Nat} (h : f_s_isAlive b x V J R r) : Sq r ((0 ≤ x ∧ x < 4 ∧ ¬ V (b + 3 + 2 * x.toNat) 0 = 0) ∧ ¬ dedX (V (b + 3 + 2 * x.toNat))) := by
  simp only [f_s_isAlive, rdb, fct, rtn, calR, if_r] at h
  obtain ⟨z, hz, hr, h⟩ := h
  have hq := q_sPlant hz
  rcases h with ⟨h1, h⟩ | ⟨h1, y, hy, hr2, h⟩
  · unfold Sq at hq ⊢
    right
    rcases hq with hq | hq
    · omega
    · exact ⟨h, fun hh => hq.2 hh.1⟩
  · have hd := q_sDead hy
    have hp : 0 ≤ x ∧ x < 4 ∧ ¬ V (b + 3 + 2 * x.toNat) 0 = 0 := Sq.on hq h1
    unfold Sq at hd ⊢
    rcases hd with hd | hd
    · right
      exact ⟨by omega, fun hh => hh.2 hd.2⟩
    · left
      exact ⟨by omega, hp, hd.2⟩
theorem q_sPerson {b : Nat} {x r : Int} {V J : Nat → Nat → Int} {R : Nat → Nat → Nat} (h : f_s_isPerson b x V J R r) : Sq r (0 ≤ x ∧ x < 8 ∧ ¬ V (b + 11 + x.toNat) 0 = 0) := by
  simp only [f_s_isPerson, rdb, fct, rtn, calR, if_r, Nat.one_mul] at h
  obtain ⟨z, hz, hr, h⟩ := h
  have hq := q_place hz
  unfold Sq at hq ⊢
  omega
/-- the next number of the draws -/
def drx (x : Int) : Int := (25173 * x + 13849) % 65536
theorem iAnd_n {a b : Nat} (ha : a < 2147483648) (hb : b < 2147483648) : iAnd (a : Int) (b : Int) = ((a &&& b : Nat) : Int) := by
  have e : ∀ q : Nat, q < 2147483648 → (Int32.ofInt (q : Int)).toBitVec.toNat = q := fun q hq => by
    have h3 : (Int32.ofInt (q : Int)).toBitVec.toInt = q := xi_toInt (a := (q : Int)) ⟨by omega, by omega⟩
    rw [BitVec.toInt_eq_toNat_cond] at h3
    have h4 := (Int32.ofInt (q : Int)).toBitVec.isLt
    split at h3 <;> omega
  have e2 : (Int32.ofInt (a : Int) &&& Int32.ofInt (b : Int)).toBitVec.toNat = a &&& b := by
    rw [Int32.toBitVec_and, BitVec.toNat_and, e a ha, e b hb]
  have h5 : a &&& b ≤ a := Nat.and_le_left
  show (Int32.ofInt (a : Int) &&& Int32.ofInt (b : Int)).toBitVec.toInt = _
  rw [BitVec.toInt_eq_toNat_cond, if_pos (by omega), e2]
theorem iAnd_65535 {z : Int} (h : 0 ≤ z ∧ z ≤ 2147483647) : iAnd z 65535 = z % 65536 := by
  obtain ⟨n, rfl⟩ : ∃ n : Nat, z = n := ⟨z.toNat, by omega⟩
  have := iAnd_n (a := n) (b := 65535) (by omega) (by decide)
  rw [show ((65535 : Nat) : Int) = 65535 from rfl] at this
  rw [this, show (65535 : Nat) = 2 ^ 16 - 1 from rfl, Nat.and_two_pow_sub_one_eq_mod]
  omega
theorem q_sDraw {b : Nat} {a : Int} {V J U : Nat → Nat → Int} {R : Nat → Nat → Nat} (h : f_s_draw b V J R (a, U)) (hx : 0 ≤ V b 4 ∧ V b 4 ≤ 65535) : a = drx (V b 4) % 10 ∧ U = up2 V b 4 (drx (V b 4)) := by
  simp only [f_s_draw, rdb, fct, rtn, Prod.mk.injEq] at h
  obtain ⟨-, -, h1, h2⟩ := h
  rw [wr_id (z := 25173 * V b 4) ⟨by omega, by omega⟩, wr_id ⟨by omega, by omega⟩, iAnd_65535 (by omega)] at h1 h2
  unfold drx
  rw [iRem_p (by omega) (by omega)] at h1
  exact ⟨h1, h2⟩
theorem q_mDraw {a : Int} {V J U : Nat → Nat → Int} {R : Nat → Nat → Nat} (h : f_m_draws V J R (a, U)) (hx : 0 ≤ V 1 80 ∧ V 1 80 ≤ 65535) : a = drx (V 1 80) % 10 ∧ U = up2 V 1 80 (drx (V 1 80)) := by
  simp only [f_m_draws, rdb, fct, rtn, Prod.mk.injEq] at h
  obtain ⟨-, -, h1, h2⟩ := h
  rw [wr_id (z := 25173 * V 1 80) ⟨by omega, by omega⟩, wr_id ⟨by omega, by omega⟩] at h1 h2
  have e := iRem_p (a := 25173 * V 1 80 + 13849) (b := 65536) ⟨by omega, by omega⟩ (by decide)
  rw [e] at h1 h2
  unfold drx
  rw [iRem_p (by omega) (by decide)] at h1
  exact ⟨h1, h2⟩
theorem drx_r (x : Int) : 0 ≤ drx x ∧ drx x ≤ 65535 := by unfold drx; omega
theorem q_bits {s r : Int} (h : f_m_bits s r) : r = cnt s := by
  have hs : ∀ {k : Int} {a : Int}, 0 ≤ a ∧ a ≤ 8 → wr (a + iAnd (iShr s k) 1) = a + bt s k := fun {k a} ha => by
    have := bt_r s k
    unfold bt at this ⊢
    exact wr_id ⟨by omega, by omega⟩
  have b0 := bt_r s 0
  have b1 := bt_r s 1
  have b2 := bt_r s 2
  have b3 := bt_r s 3
  have b4 := bt_r s 4
  have b5 := bt_r s 5
  have b6 := bt_r s 6
  have b7 := bt_r s 7
  simp only [f_m_bits, rdb] at h
  obtain ⟨b, hb, h⟩ := lop2_g h
  rw [lop2_s hb, if_neg (by decide)] at h
  obtain ⟨-, h⟩ := h
  rw [hs (k := 0) (a := 0) ⟨by decide, by decide⟩] at h
  rw [lop2_s hb, if_neg (by decide)] at h
  obtain ⟨-, h⟩ := h
  rw [show (0 + 1 : Int) = 1 by decide, hs (k := 1) (a := 0 + bt s 0) ⟨by omega, by omega⟩] at h
  rw [lop2_s hb, if_neg (by decide)] at h
  obtain ⟨-, h⟩ := h
  rw [show (1 + 1 : Int) = 2 by decide, hs (k := 2) (a := 0 + bt s 0 + bt s 1) ⟨by omega, by omega⟩] at h
  rw [lop2_s hb, if_neg (by decide)] at h
  obtain ⟨-, h⟩ := h
  rw [show (2 + 1 : Int) = 3 by decide, hs (k := 3) (a := 0 + bt s 0 + bt s 1 + bt s 2) ⟨by omega, by omega⟩] at h
  rw [lop2_s hb, if_neg (by decide)] at h
  obtain ⟨-, h⟩ := h
  rw [show (3 + 1 : Int) = 4 by decide, hs (k := 4) (a := 0 + bt s 0 + bt s 1 + bt s 2 + bt s 3) ⟨by omega, by omega⟩] at h
  rw [lop2_s hb, if_neg (by decide)] at h
  obtain ⟨-, h⟩ := h
  rw [show (4 + 1 : Int) = 5 by decide, hs (k := 5) (a := 0 + bt s 0 + bt s 1 + bt s 2 + bt s 3 + bt s 4) ⟨by omega, by omega⟩] at h
  rw [lop2_s hb, if_neg (by decide)] at h
  obtain ⟨-, h⟩ := h
  rw [show (5 + 1 : Int) = 6 by decide, hs (k := 6) (a := 0 + bt s 0 + bt s 1 + bt s 2 + bt s 3 + bt s 4 + bt s 5) ⟨by omega, by omega⟩] at h
  rw [lop2_s hb, if_neg (by decide)] at h
  obtain ⟨-, h⟩ := h
  rw [show (6 + 1 : Int) = 7 by decide, hs (k := 7) (a := 0 + bt s 0 + bt s 1 + bt s 2 + bt s 3 + bt s 4 + bt s 5 + bt s 6) ⟨by omega, by omega⟩] at h
  rw [lop2_s hb, if_pos (by decide)] at h
  unfold cnt
  have h : r = _ := h
  omega
end
