theorem hd_yX12_isClause : yX12_isClause.cls ≠ "java/lang/invoke/MethodHandle" ∧ yX12_isClause.cls ≠ "java/lang/invoke/VarHandle" ∧ (parseMethodDescriptor yX12_isClause.desc).map (fun d => d.parameters.length) = some 2 := by decide +kernel
theorem hd_yX12_readsCondition : yX12_readsCondition.cls ≠ "java/lang/invoke/MethodHandle" ∧ yX12_readsCondition.cls ≠ "java/lang/invoke/VarHandle" ∧ (parseMethodDescriptor yX12_readsCondition.desc).map (fun d => d.parameters.length) = some 0 := by decide +kernel
theorem dX12_readsClause_0 : decode cX12_readsClause 0 = .ok (.aload_n 0, 1) := by decide +kernel
theorem dX12_readsClause_1 : decode cX12_readsClause 1 = .ok (.invokevirtual 150, 3) := by decide +kernel
theorem dX12_readsClause_4 : decode cX12_readsClause 4 = .ok (.istore_n 2, 1) := by decide +kernel
theorem dX12_readsClause_5 : decode cX12_readsClause 5 = .ok (.iload_n 2, 1) := by decide +kernel
theorem dX12_readsClause_6 : decode cX12_readsClause 6 = .ok (.iload_n 1, 1) := by decide +kernel
theorem dX12_readsClause_7 : decode cX12_readsClause 7 = .ok (.invokestatic 222, 3) := by decide +kernel
theorem dX12_readsClause_10 : decode cX12_readsClause 10 = .ok (.ifCond .ne 13, 3) := by decide +kernel
theorem dX12_readsClause_13 : decode cX12_readsClause 13 = .ok (.aload_n 0, 1) := by decide +kernel
theorem dX12_readsClause_14 : decode cX12_readsClause 14 = .ok (.iconst 1, 1) := by decide +kernel
theorem dX12_readsClause_15 : decode cX12_readsClause 15 = .ok (.aload_n 0, 1) := by decide +kernel
theorem dX12_readsClause_16 : decode cX12_readsClause 16 = .ok (.getfield 144, 3) := by decide +kernel
theorem dX12_readsClause_19 : decode cX12_readsClause 19 = .ok (.invokevirtual 157, 3) := by decide +kernel
theorem dX12_readsClause_22 : decode cX12_readsClause 22 = .ok (.ireturn, 1) := by decide +kernel
theorem dX12_readsClause_23 : decode cX12_readsClause 23 = .ok (.aload_n 0, 1) := by decide +kernel
theorem dX12_readsClause_24 : decode cX12_readsClause 24 = .ok (.getfield 225, 3) := by decide +kernel
theorem dX12_readsClause_27 : decode cX12_readsClause 27 = .ok (.bipush 14, 2) := by decide +kernel
theorem dX12_readsClause_29 : decode cX12_readsClause 29 = .ok (.if_icmp .ne 13, 3) := by decide +kernel
theorem dX12_readsClause_32 : decode cX12_readsClause 32 = .ok (.aload_n 0, 1) := by decide +kernel
theorem dX12_readsClause_33 : decode cX12_readsClause 33 = .ok (.iconst 4, 1) := by decide +kernel
theorem dX12_readsClause_34 : decode cX12_readsClause 34 = .ok (.aload_n 0, 1) := by decide +kernel
theorem dX12_readsClause_35 : decode cX12_readsClause 35 = .ok (.getfield 144, 3) := by decide +kernel
theorem dX12_readsClause_38 : decode cX12_readsClause 38 = .ok (.invokevirtual 157, 3) := by decide +kernel
theorem dX12_readsClause_41 : decode cX12_readsClause 41 = .ok (.ireturn, 1) := by decide +kernel
theorem dX12_readsClause_42 : decode cX12_readsClause 42 = .ok (.aload_n 0, 1) := by decide +kernel
theorem dX12_readsClause_43 : decode cX12_readsClause 43 = .ok (.getfield 29, 3) := by decide +kernel
theorem dX12_readsClause_46 : decode cX12_readsClause 46 = .ok (.aload_n 0, 1) := by decide +kernel
theorem dX12_readsClause_47 : decode cX12_readsClause 47 = .ok (.getfield 225, 3) := by decide +kernel
theorem dX12_readsClause_50 : decode cX12_readsClause 50 = .ok (.iload_n 2, 1) := by decide +kernel
theorem dX12_readsClause_51 : decode cX12_readsClause 51 = .ok (.iastore, 1) := by decide +kernel
theorem dX12_readsClause_52 : decode cX12_readsClause 52 = .ok (.aload_n 0, 1) := by decide +kernel
theorem dX12_readsClause_53 : decode cX12_readsClause 53 = .ok (.aload_n 0, 1) := by decide +kernel
theorem dX12_readsClause_54 : decode cX12_readsClause 54 = .ok (.getfield 144, 3) := by decide +kernel
theorem dX12_readsClause_57 : decode cX12_readsClause 57 = .ok (.iconst 1, 1) := by decide +kernel
theorem dX12_readsClause_58 : decode cX12_readsClause 58 = .ok (.iadd, 1) := by decide +kernel
theorem dX12_readsClause_59 : decode cX12_readsClause 59 = .ok (.putfield 144, 3) := by decide +kernel
theorem dX12_readsClause_62 : decode cX12_readsClause 62 = .ok (.aload_n 0, 1) := by decide +kernel
theorem dX12_readsClause_63 : decode cX12_readsClause 63 = .ok (.getfield 32, 3) := by decide +kernel
theorem dX12_readsClause_66 : decode cX12_readsClause 66 = .ok (.aload_n 0, 1) := by decide +kernel
theorem dX12_readsClause_67 : decode cX12_readsClause 67 = .ok (.getfield 225, 3) := by decide +kernel
theorem dX12_readsClause_70 : decode cX12_readsClause 70 = .ok (.aload_n 0, 1) := by decide +kernel
theorem dX12_readsClause_71 : decode cX12_readsClause 71 = .ok (.getfield 167, 3) := by decide +kernel
theorem dX12_readsClause_74 : decode cX12_readsClause 74 = .ok (.iastore, 1) := by decide +kernel
theorem dX12_readsClause_75 : decode cX12_readsClause 75 = .ok (.aload_n 0, 1) := by decide +kernel
theorem dX12_readsClause_76 : decode cX12_readsClause 76 = .ok (.iconst 0, 1) := by decide +kernel
theorem dX12_readsClause_77 : decode cX12_readsClause 77 = .ok (.putfield 171, 3) := by decide +kernel
theorem dX12_readsClause_80 : decode cX12_readsClause 80 = .ok (.aload_n 0, 1) := by decide +kernel
theorem dX12_readsClause_81 : decode cX12_readsClause 81 = .ok (.iconst 0, 1) := by decide +kernel
theorem dX12_readsClause_82 : decode cX12_readsClause 82 = .ok (.putfield 174, 3) := by decide +kernel
theorem dX12_readsClause_85 : decode cX12_readsClause 85 = .ok (.aload_n 0, 1) := by decide +kernel
theorem dX12_readsClause_86 : decode cX12_readsClause 86 = .ok (.invokevirtual 207, 3) := by decide +kernel
theorem dX12_readsClause_89 : decode cX12_readsClause 89 = .ok (.ifCond .ne 5, 3) := by decide +kernel
theorem dX12_readsClause_92 : decode cX12_readsClause 92 = .ok (.iconst 0, 1) := by decide +kernel
theorem dX12_readsClause_93 : decode cX12_readsClause 93 = .ok (.ireturn, 1) := by decide +kernel
theorem dX12_readsClause_94 : decode cX12_readsClause 94 = .ok (.aload_n 0, 1) := by decide +kernel
theorem dX12_readsClause_95 : decode cX12_readsClause 95 = .ok (.getfield 35, 3) := by decide +kernel
theorem dX12_readsClause_98 : decode cX12_readsClause 98 = .ok (.aload_n 0, 1) := by decide +kernel
theorem dX12_readsClause_99 : decode cX12_readsClause 99 = .ok (.getfield 225, 3) := by decide +kernel
theorem dX12_readsClause_102 : decode cX12_readsClause 102 = .ok (.aload_n 0, 1) := by decide +kernel
theorem dX12_readsClause_103 : decode cX12_readsClause 103 = .ok (.getfield 167, 3) := by decide +kernel
theorem dX12_readsClause_106 : decode cX12_readsClause 106 = .ok (.iastore, 1) := by decide +kernel
theorem dX12_readsClause_107 : decode cX12_readsClause 107 = .ok (.aload_n 0, 1) := by decide +kernel
theorem dX12_readsClause_108 : decode cX12_readsClause 108 = .ok (.invokevirtual 228, 3) := by decide +kernel
theorem dX12_readsClause_111 : decode cX12_readsClause 111 = .ok (.ifCond .ne 5, 3) := by decide +kernel
theorem dX12_readsClause_114 : decode cX12_readsClause 114 = .ok (.iconst 0, 1) := by decide +kernel
theorem dX12_readsClause_115 : decode cX12_readsClause 115 = .ok (.ireturn, 1) := by decide +kernel
theorem dX12_readsClause_116 : decode cX12_readsClause 116 = .ok (.aload_n 0, 1) := by decide +kernel
theorem dX12_readsClause_117 : decode cX12_readsClause 117 = .ok (.getfield 38, 3) := by decide +kernel
theorem dX12_readsClause_120 : decode cX12_readsClause 120 = .ok (.aload_n 0, 1) := by decide +kernel
theorem dX12_readsClause_121 : decode cX12_readsClause 121 = .ok (.getfield 225, 3) := by decide +kernel
theorem dX12_readsClause_124 : decode cX12_readsClause 124 = .ok (.aload_n 0, 1) := by decide +kernel
theorem dX12_readsClause_125 : decode cX12_readsClause 125 = .ok (.getfield 167, 3) := by decide +kernel
theorem dX12_readsClause_128 : decode cX12_readsClause 128 = .ok (.iastore, 1) := by decide +kernel
theorem dX12_readsClause_129 : decode cX12_readsClause 129 = .ok (.aload_n 0, 1) := by decide +kernel
theorem dX12_readsClause_130 : decode cX12_readsClause 130 = .ok (.aload_n 0, 1) := by decide +kernel
theorem dX12_readsClause_131 : decode cX12_readsClause 131 = .ok (.getfield 225, 3) := by decide +kernel
theorem dX12_readsClause_134 : decode cX12_readsClause 134 = .ok (.iconst 1, 1) := by decide +kernel
theorem dX12_readsClause_135 : decode cX12_readsClause 135 = .ok (.iadd, 1) := by decide +kernel
theorem dX12_readsClause_136 : decode cX12_readsClause 136 = .ok (.putfield 225, 3) := by decide +kernel
theorem dX12_readsClause_139 : decode cX12_readsClause 139 = .ok (.iconst 1, 1) := by decide +kernel
theorem dX12_readsClause_140 : decode cX12_readsClause 140 = .ok (.ireturn, 1) := by decide +kernel
set_option maxRecDepth 100000 in
def f_m_readsClause (x1 : Int) (V : Nat → Nat → Int) (J : Nat → Nat → Int) (Rr : Nat → Nat → Nat) : (Int × (Nat → Nat → Int)) → Prop :=
  rdb (V 0 5) fun z1 => fct (0 ≤ z1 ∧ z1 ≤ 220) <| rdb (V 0 6) fun z2 => fct (0 ≤ z2 ∧ z2 ≤ 220) <| rdb (V 0 10) fun z3 => fct (0 ≤ z3 ∧ z3 ≤ 220) <| rdb (V 0 12) fun z4 => fct (0 ≤ z4 ∧ z4 ≤ 14) <| calR (f_m_here V J Rr) fun z5 => fct (-1 ≤ z5 ∧ z5 ≤ 255) <| calR (f_m_isClause z5 x1) fun z6 => fct (0 ≤ z6 ∧ z6 ≤ 1) <| (if ¬ z6 = 0 then (if ¬ z4 = 14 then rdb (up2 V 7 z4.toNat z5) fun V10 => rdb (up2 V10 0 5 (z1 + 1)) fun V11 => rdb (up2 V11 8 z4.toNat z3) fun V12 => rdb (up2 V12 0 9 0) fun V13 => rdb (up2 V13 0 11 0) fun V14 => calVM 1770887431076116959136 V14 (f_m_readsSum V14 J Rr) fun z15 V15 => fct (0 ≤ z15 ∧ z15 ≤ 1) <| (if ¬ z15 = 0 then rdb (V15 0 10) fun z18 => fct (0 ≤ z18 ∧ z18 ≤ 220) <| rdb (up2 V15 9 z4.toNat z18) fun V19 => calVM 1770887431076116959136 V19 (f_m_readsCondition V19 J Rr) fun z20 V20 => fct (0 ≤ z20 ∧ z20 ≤ 1) <| (if ¬ z20 = 0 then rdb (V20 0 10) fun z23 => fct (0 ≤ z23 ∧ z23 ≤ 220) <| rdb (up2 V20 10 z4.toNat z23) fun V24 => rdb (up2 V24 0 12 (z4 + 1)) fun V25 => rtn (1, V25) else rtn (0, V20)) else rtn (0, V15)) else calVM 128 V (f_m_wrongAt 4 z1 V J Rr) fun z26 V26 => fct (0 ≤ z26 ∧ z26 ≤ 0) <| rtn (z26, V26)) else calVM 128 V (f_m_wrongAt 1 z1 V J Rr) fun z27 V27 => fct (0 ≤ z27 ∧ z27 ≤ 0) <| rtn (z27, V27))
set_option maxHeartbeats 8000000 in
set_option maxRecDepth 100000 in
theorem m_readsClause (l : Launch) (D : va_G) (cy : Nat → ClassId) (ad : Nat → Nat) (G : Nat → Nat → Int) (V J : Nat → Nat → Int) (Rr : Nat → Nat → Nat) (hI : MI G V) (hJ : VJ J) (hR : MR Rr) (x1 : Int) (bx1 : 0 ≤ x1 ∧ x1 ≤ 4) (hT : PT V) : xMi l D (xTY cy) yX12_readsClause cX12_readsClause 3 (some .boolean) 7 145 0 0 [.ref (ad 0), vI x1] (MW cy ad V J Rr) (fun u : Nat → Nat → Int => MW cy ad u J Rr) (fun a (u : Nat → Nat → Int) => MI G u ∧ (0 ≤ a ∧ a ≤ 1) ∧ Sp a (pClause V u) ∧ FBm 37188636052598456065952 V u ∧ (f_m_readsClause x1 V J Rr) (a, u)) := by
  refine xMi.mk (lv0 := [(0, .ref (ad 0)), (1, vI x1)]) (by decide) rfl (Nat.le_of_ble_eq_true rfl) (fun p e s m below meth c A C hr hnm hAe => ?_)
  have C : xC2 p s m _ meth c D A s.heap 3 cX12_readsClause RX12 (xTY cy) := C
  have hB : FBm 37188636052598456065952 V V := FBm.rf _ _
  have hF := Imp.of_eq (f_m_readsClause.eq_def x1 V J Rr)
  obtain ⟨z1, ez1, bz1⟩ := hI.rd 0 5 (x := 0) (y := 220) rfl
  replace hF := hF.to (rdb_e (z := z1) ez1)
  replace hF := hF.fc bz1
  obtain ⟨z2, ez2, bz2⟩ := hI.rd 0 6 (x := 0) (y := 220) rfl
  replace hF := hF.to (rdb_e (z := z2) ez2)
  replace hF := hF.fc bz2
  obtain ⟨z3, ez3, bz3⟩ := hI.rd 0 10 (x := 0) (y := 220) rfl
  replace hF := hF.to (rdb_e (z := z3) ez3)
  replace hF := hF.fc bz3
  obtain ⟨z4, ez4, bz4⟩ := hI.rd 0 12 (x := 0) (y := 14) rfl
  replace hF := hF.to (rdb_e (z := z4) ez4)
  replace hF := hF.fc bz4
  have hpz := hT.1
  rw [ez1, ez2, ez3, ez4] at hpz
  refine x_aload_n C.1 dX12_readsClause_0 0 rfl ?_
  refine x_callVi C (As := []) (rest := []) 0 (xw_at (N := 33) (i := 0) (by decide) rfl) vc_X12 (m_here l D cy ad G V J Rr hI hJ hR ) (l1 := []) (l2 := []) (List.append_nil _).symm (w2 := fun _ => MW cy ad V J Rr) (fun _ => List.append_nil _) rfl wm_yX12_here wn_X12 wl_X12_150 wi_yX12_here we_yX12_here hd_yX12_here rfl ⟨Nat.le_of_ble_eq_true rfl, Nat.le_of_ble_eq_true rfl⟩ (Nat.le_of_ble_eq_true rfl) ⟨Nat.le_of_ble_eq_true rfl, Nat.le_of_ble_eq_true rfl⟩ dX12_readsClause_1 (fun z5 u5 bz5 h5 => ?_)
  obtain ⟨bq5, hx5_0, hx5_1, hFc5⟩ := h5
  replace hF := calR_i hF hFc5
  replace hF := hF.fc bq5
  rw [ez1, ez2] at hx5_0
  refine x_istore_n C.1 (lv' := [(2, vI z5), (0, .ref (ad 0)), (1, vI x1)]) dX12_readsClause_4 (by decide) rfl ?_
  refine x_iload_n C.1 dX12_readsClause_5 0 rfl ?_
  refine x_iload_n C.1 dX12_readsClause_6 2 rfl ?_
  refine x_callSi C (As := [vI z5, vI x1]) (rest := []) (m_isClause l D cy z5 ⟨by omega, by omega⟩ x1 ⟨by omega, by omega⟩) (l1 := []) (l2 := _) rfl (w2 := fun _ => _) (fun _ => rfl) rfl wm_yX12_isClause wn_X12 wl_X12_222 wi_yX12_isClause hd_yX12_isClause rfl ⟨Nat.le_of_ble_eq_true rfl, Nat.le_of_ble_eq_true rfl⟩ (Nat.le_of_ble_eq_true rfl) ⟨Nat.le_of_ble_eq_true rfl, Nat.le_of_ble_eq_true rfl⟩ dX12_readsClause_7 (fun z6 u6 bz6 h6 => ?_)
  obtain ⟨bq6, hx6_0, hFc6⟩ := h6
  replace hF := calR_i hF hFc6
  replace hF := hF.fc bq6
  refine x_if_ne C.1 (tgt := 23) dX12_readsClause_10 (by decide) (by omega) (fun hc7 => ?_) (fun hc7 => ?_)
  · replace hF := hF.to (if_pos hc7)
    have hon8 := Sp.on hx6_0 (by omega)
    refine x_aload_n C.1 dX12_readsClause_23 1 rfl ?_
    refine x_getI C (N := 33) (i := 0) (by decide) rfl vc_X12 wx_X12 12 (by decide) wf_X12_225 rfl dX12_readsClause_24 (a := z4) ez4 ?_
    refine x_bipush C.1 (n := 14) dX12_readsClause_27 ?_
    refine x_icmp_ne C.1 (tgt := 42) dX12_readsClause_29 (by decide) (by omega) (by decide) (fun hc9 => ?_) (fun hc9 => ?_)
    · replace hF := hF.to (if_pos hc9)
      refine x_aload_n C.1 dX12_readsClause_42 1 rfl ?_
      refine x_getA C (N := 33) (i := 0) (by decide) rfl vc_X12 wx_X12 15 (by decide) wf_X12_29 (a := 7) rfl dX12_readsClause_43 ?_
      refine x_aload_n C.1 dX12_readsClause_46 1 rfl ?_
      refine x_getI C (N := 33) (i := 0) (by decide) rfl vc_X12 wx_X12 12 (by decide) wf_X12_225 rfl dX12_readsClause_47 (a := z4) ez4 ?_
      refine x_iload_n C.1 dX12_readsClause_50 0 rfl ?_
      refine x_iast C (N := 33) (i := 7) (q := z4) (a := z5) (by decide) rfl (by omega) (by decide) dX12_readsClause_51 ?_
      refine x_gV ?_
      intro V10 hV10
      have hI10 : MI G V10 := hI.up hV10 rfl (by omega) rfl (Or.inl (by decide))
      have hB10 := hB.up hV10 (by rw [mkey_r (by decide)]; rfl)
      replace hF := hF.to (rdb_e (z := V10) hV10.symm)
      refine x_aload_n C.1 dX12_readsClause_52 1 rfl ?_
      refine x_aload_n C.1 dX12_readsClause_53 1 rfl ?_
      refine x_getI C (N := 33) (i := 0) (by decide) rfl vc_X12 wx_X12 5 (by decide) wf_X12_144 rfl dX12_readsClause_54 (a := z1) ((congrFun (congrFun hV10 0) 5).trans ((up2_n _ _ (Or.inl (by decide))).trans ez1)) ?_
      refine x_iconst C.1 (n := 1) dX12_readsClause_57 ?_
      refine x_iadd C.1 (v := z1 + 1) (by omega) dX12_readsClause_58 ?_
      refine x_putI C (N := 33) (i := 0) (by decide) rfl vc_X12 wx_X12 5 (by decide) wf_X12_144 tyX12 tyX12_ok nmX12 rfl (tyX12_ok 5 (by decide)) rfl dX12_readsClause_59 rfl rfl ?_
      refine x_gV ?_
      intro V11 hV11
      have hI11 : MI G V11 := hI10.up hV11 rfl (by omega) rfl (Or.inl (by decide))
      have hB11 := hB10.up hV11 rfl
      replace hF := hF.to (rdb_e (z := V11) hV11.symm)
      refine x_aload_n C.1 dX12_readsClause_62 1 rfl ?_
      refine x_getA C (N := 33) (i := 0) (by decide) rfl vc_X12 wx_X12 16 (by decide) wf_X12_32 (a := 8) rfl dX12_readsClause_63 ?_
      refine x_aload_n C.1 dX12_readsClause_66 1 rfl ?_
      refine x_getI C (N := 33) (i := 0) (by decide) rfl vc_X12 wx_X12 12 (by decide) wf_X12_225 rfl dX12_readsClause_67 (a := z4) ((congrFun (congrFun hV11 0) 12).trans ((up2_n _ _ (Or.inr (by decide))).trans ((congrFun (congrFun hV10 0) 12).trans ((up2_n _ _ (Or.inl (by decide))).trans ez4)))) ?_
      refine x_aload_n C.1 dX12_readsClause_70 1 rfl ?_
      refine x_getI C (N := 33) (i := 0) (by decide) rfl vc_X12 wx_X12 10 (by decide) wf_X12_167 rfl dX12_readsClause_71 (a := z3) ((congrFun (congrFun hV11 0) 10).trans ((up2_n _ _ (Or.inr (by decide))).trans ((congrFun (congrFun hV10 0) 10).trans ((up2_n _ _ (Or.inl (by decide))).trans ez3)))) ?_
      refine x_iast C (N := 33) (i := 8) (q := z4) (a := z3) (by decide) rfl (by omega) (by decide) dX12_readsClause_74 ?_
      refine x_gV ?_
      intro V12 hV12
      have hI12 : MI G V12 := hI11.up hV12 rfl (by omega) rfl (Or.inl (by decide))
      have hB12 := hB11.up hV12 (by rw [mkey_r (by decide)]; rfl)
      replace hF := hF.to (rdb_e (z := V12) hV12.symm)
      refine x_aload_n C.1 dX12_readsClause_75 1 rfl ?_
      refine x_iconst C.1 (n := 0) dX12_readsClause_76 ?_
      refine x_putI C (N := 33) (i := 0) (by decide) rfl vc_X12 wx_X12 9 (by decide) wf_X12_171 tyX12 tyX12_ok nmX12 rfl (tyX12_ok 9 (by decide)) rfl dX12_readsClause_77 rfl rfl ?_
      refine x_gV ?_
      intro V13 hV13
      have hI13 : MI G V13 := hI12.up hV13 rfl (by decide) rfl (Or.inl (by decide))
      have hB13 := hB12.up hV13 rfl
      replace hF := hF.to (rdb_e (z := V13) hV13.symm)
      refine x_aload_n C.1 dX12_readsClause_80 1 rfl ?_
      refine x_iconst C.1 (n := 0) dX12_readsClause_81 ?_
      refine x_putI C (N := 33) (i := 0) (by decide) rfl vc_X12 wx_X12 11 (by decide) wf_X12_174 tyX12 tyX12_ok nmX12 rfl (tyX12_ok 11 (by decide)) rfl dX12_readsClause_82 rfl rfl ?_
      refine x_gV ?_
      intro V14 hV14
      have hI14 : MI G V14 := hI13.up hV14 rfl (by decide) rfl (Or.inl (by decide))
      have hB14 := hB13.up hV14 rfl
      replace hF := hF.to (rdb_e (z := V14) hV14.symm)
      have hE : clE V V14 := ⟨z5, 0, by rw [hV14, hV13, hV12, hV11, hV10, ez4, ez1, ez3]⟩
      have hEf := hE.fact hT (by rw [ez1, ez2]; omega)
      refine x_aload_n C.1 dX12_readsClause_85 1 rfl ?_
      refine x_callVi C (As := []) (rest := []) 0 (xw_at (N := 33) (i := 0) (by decide) rfl) vc_X12 (m_readsSum l D cy ad G V14 J Rr hI14 hJ hR hEf.1 hEf.2.1 (Or.inl hEf.2.2.1)) (l1 := []) (l2 := []) (List.append_nil _).symm (w2 := fun u : Nat → Nat → Int => MW cy ad u J Rr) (fun _ => List.append_nil _) rfl wm_yX12_readsSum wn_X12 wl_X12_207 wi_yX12_readsSum we_yX12_readsSum hd_yX12_readsSum rfl ⟨Nat.le_of_ble_eq_true rfl, Nat.le_of_ble_eq_true rfl⟩ (Nat.le_of_ble_eq_true rfl) ⟨Nat.le_of_ble_eq_true rfl, Nat.le_of_ble_eq_true rfl⟩ dX12_readsClause_86 (fun z15 V15 bz15 h15 => ?_)
      obtain ⟨hI15, bq15, hx15_0, hBc15, hFc15⟩ := h15
      replace hF := calVM_i hF hFc15 hBc15
      replace hF := hF.fc bq15
      have hB15 := hB14.tr hBc15 (m := 1770887431076116959136) rfl
      refine x_if_ne C.1 (tgt := 94) dX12_readsClause_89 (by decide) (by omega) (fun hc16 => ?_) (fun hc16 => ?_)
      · replace hF := hF.to (if_pos hc16)
        have hon17 := Sp.on hx15_0 (by omega)
        refine x_aload_n C.1 dX12_readsClause_94 1 rfl ?_
        refine x_getA C (N := 33) (i := 0) (by decide) rfl vc_X12 wx_X12 17 (by decide) wf_X12_35 (a := 9) rfl dX12_readsClause_95 ?_
        refine x_aload_n C.1 dX12_readsClause_98 1 rfl ?_
        refine x_getI C (N := 33) (i := 0) (by decide) rfl vc_X12 wx_X12 12 (by decide) wf_X12_225 rfl dX12_readsClause_99 (a := z4) ((hon17.2.2.2.2.2.1.2.2.2.1).trans ((congrFun (congrFun hV14 0) 12).trans ((up2_n _ _ (Or.inr (by decide))).trans ((congrFun (congrFun hV13 0) 12).trans ((up2_n _ _ (Or.inr (by decide))).trans ((congrFun (congrFun hV12 0) 12).trans ((up2_n _ _ (Or.inl (by decide))).trans ((congrFun (congrFun hV11 0) 12).trans ((up2_n _ _ (Or.inr (by decide))).trans ((congrFun (congrFun hV10 0) 12).trans ((up2_n _ _ (Or.inl (by decide))).trans ez4))))))))))) ?_
        refine x_aload_n C.1 dX12_readsClause_102 1 rfl ?_
        obtain ⟨z18, ez18, bz18⟩ := hI15.rd 0 10 (x := 0) (y := 220) rfl
        replace hF := hF.to (rdb_e (z := z18) ez18)
        replace hF := hF.fc bz18
        refine x_getI C (N := 33) (i := 0) (by decide) rfl vc_X12 wx_X12 10 (by decide) wf_X12_167 rfl dX12_readsClause_103 (a := z18) ez18 ?_
        refine x_iast C (N := 33) (i := 9) (q := z4) (a := z18) (by decide) rfl (by omega) (by decide) dX12_readsClause_106 ?_
        refine x_gV ?_
        intro V19 hV19
        have hI19 : MI G V19 := hI15.up hV19 rfl (by omega) rfl (Or.inl (by decide))
        have hB19 := hB15.up hV19 (by rw [mkey_r (by decide)]; rfl)
        replace hF := hF.to (rdb_e (z := V19) hV19.symm)
        have hFe : V19 = up2 V15 9 (V 0 12).toNat (V15 0 10) := by rw [hV19, ez18, ez4]
        have hFp := clF hon17 hEf.2.1 hFe
        refine x_aload_n C.1 dX12_readsClause_107 1 rfl ?_
        refine x_callVi C (As := []) (rest := []) 0 (xw_at (N := 33) (i := 0) (by decide) rfl) vc_X12 (m_readsCondition l D cy ad G V19 J Rr hI19 hJ hR hFp.1 hFp.2) (l1 := []) (l2 := []) (List.append_nil _).symm (w2 := fun u : Nat → Nat → Int => MW cy ad u J Rr) (fun _ => List.append_nil _) rfl wm_yX12_readsCondition wn_X12 wl_X12_228 wi_yX12_readsCondition we_yX12_readsCondition hd_yX12_readsCondition rfl ⟨Nat.le_of_ble_eq_true rfl, Nat.le_of_ble_eq_true rfl⟩ (Nat.le_of_ble_eq_true rfl) ⟨Nat.le_of_ble_eq_true rfl, Nat.le_of_ble_eq_true rfl⟩ dX12_readsClause_108 (fun z20 V20 bz20 h20 => ?_)
        obtain ⟨hI20, bq20, hx20_0, hBc20, hFc20⟩ := h20
        replace hF := calVM_i hF hFc20 hBc20
        replace hF := hF.fc bq20
        have hB20 := hB19.tr hBc20 (m := 1770887431076116959136) rfl
        refine x_if_ne C.1 (tgt := 116) dX12_readsClause_111 (by decide) (by omega) (fun hc21 => ?_) (fun hc21 => ?_)
        · replace hF := hF.to (if_pos hc21)
          have hon22 := Sp.on hx20_0 (by omega)
          refine x_aload_n C.1 dX12_readsClause_116 1 rfl ?_
          refine x_getA C (N := 33) (i := 0) (by decide) rfl vc_X12 wx_X12 18 (by decide) wf_X12_38 (a := 10) rfl dX12_readsClause_117 ?_
          refine x_aload_n C.1 dX12_readsClause_120 1 rfl ?_
          refine x_getI C (N := 33) (i := 0) (by decide) rfl vc_X12 wx_X12 12 (by decide) wf_X12_225 rfl dX12_readsClause_121 (a := z4) ((hon22.2.2.2.2.2.2.1).trans ((congrFun (congrFun hV19 0) 12).trans ((up2_n _ _ (Or.inl (by decide))).trans ((hon17.2.2.2.2.2.1.2.2.2.1).trans ((congrFun (congrFun hV14 0) 12).trans ((up2_n _ _ (Or.inr (by decide))).trans ((congrFun (congrFun hV13 0) 12).trans ((up2_n _ _ (Or.inr (by decide))).trans ((congrFun (congrFun hV12 0) 12).trans ((up2_n _ _ (Or.inl (by decide))).trans ((congrFun (congrFun hV11 0) 12).trans ((up2_n _ _ (Or.inr (by decide))).trans ((congrFun (congrFun hV10 0) 12).trans ((up2_n _ _ (Or.inl (by decide))).trans ez4)))))))))))))) ?_
          refine x_aload_n C.1 dX12_readsClause_124 1 rfl ?_
          obtain ⟨z23, ez23, bz23⟩ := hI20.rd 0 10 (x := 0) (y := 220) rfl
          replace hF := hF.to (rdb_e (z := z23) ez23)
          replace hF := hF.fc bz23
          refine x_getI C (N := 33) (i := 0) (by decide) rfl vc_X12 wx_X12 10 (by decide) wf_X12_167 rfl dX12_readsClause_125 (a := z23) ez23 ?_
          refine x_iast C (N := 33) (i := 10) (q := z4) (a := z23) (by decide) rfl (by omega) (by decide) dX12_readsClause_128 ?_
          refine x_gV ?_
          intro V24 hV24
          have hI24 : MI G V24 := hI20.up hV24 rfl (by omega) rfl (Or.inl (by decide))
          have hB24 := hB20.up hV24 (by rw [mkey_r (by decide)]; rfl)
          replace hF := hF.to (rdb_e (z := V24) hV24.symm)
          refine x_aload_n C.1 dX12_readsClause_129 1 rfl ?_
          refine x_aload_n C.1 dX12_readsClause_130 1 rfl ?_
          refine x_getI C (N := 33) (i := 0) (by decide) rfl vc_X12 wx_X12 12 (by decide) wf_X12_225 rfl dX12_readsClause_131 (a := z4) ((congrFun (congrFun hV24 0) 12).trans ((up2_n _ _ (Or.inl (by decide))).trans ((hon22.2.2.2.2.2.2.1).trans ((congrFun (congrFun hV19 0) 12).trans ((up2_n _ _ (Or.inl (by decide))).trans ((hon17.2.2.2.2.2.1.2.2.2.1).trans ((congrFun (congrFun hV14 0) 12).trans ((up2_n _ _ (Or.inr (by decide))).trans ((congrFun (congrFun hV13 0) 12).trans ((up2_n _ _ (Or.inr (by decide))).trans ((congrFun (congrFun hV12 0) 12).trans ((up2_n _ _ (Or.inl (by decide))).trans ((congrFun (congrFun hV11 0) 12).trans ((up2_n _ _ (Or.inr (by decide))).trans ((congrFun (congrFun hV10 0) 12).trans ((up2_n _ _ (Or.inl (by decide))).trans ez4)))))))))))))))) ?_
          refine x_iconst C.1 (n := 1) dX12_readsClause_134 ?_
          refine x_iadd C.1 (v := z4 + 1) (by omega) dX12_readsClause_135 ?_
          refine x_putI C (N := 33) (i := 0) (by decide) rfl vc_X12 wx_X12 12 (by decide) wf_X12_225 tyX12 tyX12_ok nmX12 rfl (tyX12_ok 12 (by decide)) rfl dX12_readsClause_136 rfl rfl ?_
          refine x_gV ?_
          intro V25 hV25
          have hI25 : MI G V25 := hI24.up hV25 rfl (by omega) rfl (Or.inl (by decide))
          have hB25 := hB24.up hV25 rfl
          replace hF := hF.to (rdb_e (z := V25) hV25.symm)
          refine x_iconst C.1 (n := 1) dX12_readsClause_139 ?_
          exact x_zret (S := (Nat → Nat → Int)) (post := (fun a (u : Nat → Nat → Int) => MI G u ∧ (0 ≤ a ∧ a ≤ 1) ∧ Sp a (pClause V u) ∧ FBm 37188636052598456065952 V u ∧ (f_m_readsClause x1 V J Rr) (a, u))) (w1 := (fun u : Nat → Nat → Int => MW cy ad u J Rr)) (a := 1) C hr rfl dX12_readsClause_140 (by decide) V25 rfl ⟨hI25, ⟨by decide, by decide⟩, (Or.inr ⟨rfl, pClause.mk hT (by rw [ez1, ez2]; omega) hE hon17 hFe hon22 (by rw [hV25, hV24, ez23, ez4])⟩), hB25, hF _ rfl⟩
        · replace hF := hF.to (if_neg (fun hh => hh hc21))
          refine x_iconst C.1 (n := 0) dX12_readsClause_114 ?_
          exact x_zret (S := (Nat → Nat → Int)) (post := (fun a (u : Nat → Nat → Int) => MI G u ∧ (0 ≤ a ∧ a ≤ 1) ∧ Sp a (pClause V u) ∧ FBm 37188636052598456065952 V u ∧ (f_m_readsClause x1 V J Rr) (a, u))) (w1 := (fun u : Nat → Nat → Int => MW cy ad u J Rr)) (a := 0) C hr rfl dX12_readsClause_115 (by decide) V20 rfl ⟨hI20, ⟨by decide, by decide⟩, (Or.inl rfl), hB20, hF _ rfl⟩
      · replace hF := hF.to (if_neg (fun hh => hh hc16))
        refine x_iconst C.1 (n := 0) dX12_readsClause_92 ?_
        exact x_zret (S := (Nat → Nat → Int)) (post := (fun a (u : Nat → Nat → Int) => MI G u ∧ (0 ≤ a ∧ a ≤ 1) ∧ Sp a (pClause V u) ∧ FBm 37188636052598456065952 V u ∧ (f_m_readsClause x1 V J Rr) (a, u))) (w1 := (fun u : Nat → Nat → Int => MW cy ad u J Rr)) (a := 0) C hr rfl dX12_readsClause_93 (by decide) V15 rfl ⟨hI15, ⟨by decide, by decide⟩, (Or.inl rfl), hB15, hF _ rfl⟩
    · replace hF := hF.to (if_neg (fun hh => hh hc9))
      refine x_aload_n C.1 dX12_readsClause_32 1 rfl ?_
      refine x_iconst C.1 (n := 4) dX12_readsClause_33 ?_
      refine x_aload_n C.1 dX12_readsClause_34 1 rfl ?_
      refine x_getI C (N := 33) (i := 0) (by decide) rfl vc_X12 wx_X12 5 (by decide) wf_X12_144 rfl dX12_readsClause_35 (a := z1) ez1 ?_
      refine x_callVi C (As := [vI 4, vI z1]) (rest := []) 0 (xw_at (N := 33) (i := 0) (by decide) rfl) vc_X12 (m_wrongAt l D cy ad G V J Rr hI hJ hR 4 ⟨by decide, by decide⟩ z1 ⟨by omega, by omega⟩) (l1 := []) (l2 := []) (List.append_nil _).symm (w2 := fun u : Nat → Nat → Int => MW cy ad u J Rr) (fun _ => List.append_nil _) rfl wm_yX12_wrongAt wn_X12 wl_X12_157 wi_yX12_wrongAt we_yX12_wrongAt hd_yX12_wrongAt rfl ⟨Nat.le_of_ble_eq_true rfl, Nat.le_of_ble_eq_true rfl⟩ (Nat.le_of_ble_eq_true rfl) ⟨Nat.le_of_ble_eq_true rfl, Nat.le_of_ble_eq_true rfl⟩ dX12_readsClause_38 (fun z26 V26 bz26 h26 => ?_)
      obtain ⟨hI26, bq26, hx26_0, hBc26, hFc26⟩ := h26
      replace hF := calVM_i hF hFc26 hBc26
      replace hF := hF.fc bq26
      have hB26 := hB.tr hBc26 (m := 128) rfl
      exact x_zret (S := (Nat → Nat → Int)) (post := (fun a (u : Nat → Nat → Int) => MI G u ∧ (0 ≤ a ∧ a ≤ 1) ∧ Sp a (pClause V u) ∧ FBm 37188636052598456065952 V u ∧ (f_m_readsClause x1 V J Rr) (a, u))) (w1 := (fun u : Nat → Nat → Int => MW cy ad u J Rr)) (a := z26) C hr rfl dX12_readsClause_41 (by omega) V26 rfl ⟨hI26, ⟨by omega, by omega⟩, (Or.inl (by omega)), hB26, hF _ rfl⟩
  · replace hF := hF.to (if_neg (fun hh => hh hc7))
    refine x_aload_n C.1 dX12_readsClause_13 1 rfl ?_
    refine x_iconst C.1 (n := 1) dX12_readsClause_14 ?_
    refine x_aload_n C.1 dX12_readsClause_15 1 rfl ?_
    refine x_getI C (N := 33) (i := 0) (by decide) rfl vc_X12 wx_X12 5 (by decide) wf_X12_144 rfl dX12_readsClause_16 (a := z1) ez1 ?_
    refine x_callVi C (As := [vI 1, vI z1]) (rest := []) 0 (xw_at (N := 33) (i := 0) (by decide) rfl) vc_X12 (m_wrongAt l D cy ad G V J Rr hI hJ hR 1 ⟨by decide, by decide⟩ z1 ⟨by omega, by omega⟩) (l1 := []) (l2 := []) (List.append_nil _).symm (w2 := fun u : Nat → Nat → Int => MW cy ad u J Rr) (fun _ => List.append_nil _) rfl wm_yX12_wrongAt wn_X12 wl_X12_157 wi_yX12_wrongAt we_yX12_wrongAt hd_yX12_wrongAt rfl ⟨Nat.le_of_ble_eq_true rfl, Nat.le_of_ble_eq_true rfl⟩ (Nat.le_of_ble_eq_true rfl) ⟨Nat.le_of_ble_eq_true rfl, Nat.le_of_ble_eq_true rfl⟩ dX12_readsClause_19 (fun z27 V27 bz27 h27 => ?_)
    obtain ⟨hI27, bq27, hx27_0, hBc27, hFc27⟩ := h27
    replace hF := calVM_i hF hFc27 hBc27
    replace hF := hF.fc bq27
    have hB27 := hB.tr hBc27 (m := 128) rfl
    exact x_zret (S := (Nat → Nat → Int)) (post := (fun a (u : Nat → Nat → Int) => MI G u ∧ (0 ≤ a ∧ a ≤ 1) ∧ Sp a (pClause V u) ∧ FBm 37188636052598456065952 V u ∧ (f_m_readsClause x1 V J Rr) (a, u))) (w1 := (fun u : Nat → Nat → Int => MW cy ad u J Rr)) (a := z27) C hr rfl dX12_readsClause_22 (by omega) V27 rfl ⟨hI27, ⟨by omega, by omega⟩, (Or.inl (by omega)), hB27, hF _ rfl⟩
