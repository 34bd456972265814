theorem hd_yX12_canGo : yX12_canGo.cls ≠ "java/lang/invoke/MethodHandle" ∧ yX12_canGo.cls ≠ "java/lang/invoke/VarHandle" ∧ (parseMethodDescriptor yX12_canGo.desc).map (fun d => d.parameters.length) = some 3 := by decide +kernel
theorem hd_yX12_goesThrough : yX12_goesThrough.cls ≠ "java/lang/invoke/MethodHandle" ∧ yX12_goesThrough.cls ≠ "java/lang/invoke/VarHandle" ∧ (parseMethodDescriptor yX12_goesThrough.desc).map (fun d => d.parameters.length) = some 2 := by decide +kernel
theorem dX12_exactly_0 : decode cX12_exactly 0 = .ok (.aload_n 0, 1) := by decide +kernel
theorem dX12_exactly_1 : decode cX12_exactly 1 = .ok (.iload_n 1, 1) := by decide +kernel
theorem dX12_exactly_2 : decode cX12_exactly 2 = .ok (.iload_n 2, 1) := by decide +kernel
theorem dX12_exactly_3 : decode cX12_exactly 3 = .ok (.iload_n 3, 1) := by decide +kernel
theorem dX12_exactly_4 : decode cX12_exactly 4 = .ok (.invokevirtual 342, 3) := by decide +kernel
theorem dX12_exactly_7 : decode cX12_exactly 7 = .ok (.ifCond .eq 14, 3) := by decide +kernel
theorem dX12_exactly_10 : decode cX12_exactly 10 = .ok (.iload 4, 2) := by decide +kernel
theorem dX12_exactly_12 : decode cX12_exactly 12 = .ok (.iconst (-1), 1) := by decide +kernel
theorem dX12_exactly_13 : decode cX12_exactly 13 = .ok (.bipush 24, 2) := by decide +kernel
theorem dX12_exactly_15 : decode cX12_exactly 15 = .ok (.invokestatic 126, 3) := by decide +kernel
theorem dX12_exactly_18 : decode cX12_exactly 18 = .ok (.ifCond .ne 7, 3) := by decide +kernel
theorem dX12_exactly_21 : decode cX12_exactly 21 = .ok (.ldc2_w 345, 3) := by decide +kernel
theorem dX12_exactly_24 : decode cX12_exactly 24 = .ok (.lreturn, 1) := by decide +kernel
theorem dX12_exactly_25 : decode cX12_exactly 25 = .ok (.aload_n 0, 1) := by decide +kernel
theorem dX12_exactly_26 : decode cX12_exactly 26 = .ok (.iload_n 2, 1) := by decide +kernel
theorem dX12_exactly_27 : decode cX12_exactly 27 = .ok (.iload_n 3, 1) := by decide +kernel
theorem dX12_exactly_28 : decode cX12_exactly 28 = .ok (.invokevirtual 347, 3) := by decide +kernel
theorem dX12_exactly_31 : decode cX12_exactly 31 = .ok (.pop2, 1) := by decide +kernel
theorem dX12_exactly_32 : decode cX12_exactly 32 = .ok (.iload 4, 2) := by decide +kernel
theorem dX12_exactly_34 : decode cX12_exactly 34 = .ok (.iconst (-1), 1) := by decide +kernel
theorem dX12_exactly_35 : decode cX12_exactly 35 = .ok (.if_icmp .ne 8, 3) := by decide +kernel
theorem dX12_exactly_38 : decode cX12_exactly 38 = .ok (.aload_n 0, 1) := by decide +kernel
theorem dX12_exactly_39 : decode cX12_exactly 39 = .ok (.getfield 321, 3) := by decide +kernel
theorem dX12_exactly_42 : decode cX12_exactly 42 = .ok (.lreturn, 1) := by decide +kernel
theorem dX12_exactly_43 : decode cX12_exactly 43 = .ok (.lconst 0, 1) := by decide +kernel
theorem dX12_exactly_44 : decode cX12_exactly 44 = .ok (.lstore 5, 2) := by decide +kernel
theorem dX12_exactly_46 : decode cX12_exactly 46 = .ok (.iconst 0, 1) := by decide +kernel
theorem dX12_exactly_47 : decode cX12_exactly 47 = .ok (.istore 7, 2) := by decide +kernel
theorem dX12_exactly_49 : decode cX12_exactly 49 = .ok (.iload 7, 2) := by decide +kernel
theorem dX12_exactly_51 : decode cX12_exactly 51 = .ok (.bipush 20, 2) := by decide +kernel
theorem dX12_exactly_53 : decode cX12_exactly 53 = .ok (.if_icmp .ge 27, 3) := by decide +kernel
theorem dX12_exactly_56 : decode cX12_exactly 56 = .ok (.lload 5, 2) := by decide +kernel
theorem dX12_exactly_58 : decode cX12_exactly 58 = .ok (.aload_n 0, 1) := by decide +kernel
theorem dX12_exactly_59 : decode cX12_exactly 59 = .ok (.getfield 74, 3) := by decide +kernel
theorem dX12_exactly_62 : decode cX12_exactly 62 = .ok (.bipush 20, 2) := by decide +kernel
theorem dX12_exactly_64 : decode cX12_exactly 64 = .ok (.iload 4, 2) := by decide +kernel
theorem dX12_exactly_66 : decode cX12_exactly 66 = .ok (.imul, 1) := by decide +kernel
theorem dX12_exactly_67 : decode cX12_exactly 67 = .ok (.iload 7, 2) := by decide +kernel
theorem dX12_exactly_69 : decode cX12_exactly 69 = .ok (.iadd, 1) := by decide +kernel
theorem dX12_exactly_70 : decode cX12_exactly 70 = .ok (.laload, 1) := by decide +kernel
theorem dX12_exactly_71 : decode cX12_exactly 71 = .ok (.ladd, 1) := by decide +kernel
theorem dX12_exactly_72 : decode cX12_exactly 72 = .ok (.lstore 5, 2) := by decide +kernel
theorem dX12_exactly_74 : decode cX12_exactly 74 = .ok (.iinc 7 1, 3) := by decide +kernel
theorem dX12_exactly_77 : decode cX12_exactly 77 = .ok (.goto (-28), 3) := by decide +kernel
theorem dX12_exactly_80 : decode cX12_exactly 80 = .ok (.lload 5, 2) := by decide +kernel
theorem dX12_exactly_82 : decode cX12_exactly 82 = .ok (.lreturn, 1) := by decide +kernel
set_option maxRecDepth 100000 in
def f_m_exactly (x1 : Int) (x2 : Int) (x3 : Int) (x4 : Int) (V : Nat → Nat → Int) (J : Nat → Nat → Int) (Rr : Nat → Nat → Nat) : (Int × xS) → Prop :=
  calVM 58028439341502226155700224 V (f_m_canGo x1 x2 x3 V J Rr) fun z1 V1 => fct (0 ≤ z1 ∧ z1 ≤ 1) <| (if z1 = 0 then rtn ((-1), (V1, J, Rr)) else calR (f_m_in x4 (-1) 24) fun z4 => fct (0 ≤ z4 ∧ z4 ≤ 1) <| (if ¬ z4 = 0 then calSM 7253591811175922467340288 V1 (f_m_goesThrough x2 x3 V1 J Rr) fun z7 V7 J7 R7 => (if ¬ x4 = (-1) then lop2 (22) (fun rc34 (z32 : Int) (z33 : Int) => (if 20 ≤ z32 then rtn (z33, (V7, J7, R7)) else rdb (J7 22 ((20 * x4 + z32).toNat)) fun z39 => rdb (wrJ (z33 + z39)) fun z40 => rc34 (z32 + 1) z40)) 0 0 else rdb (J7 0 39) fun z41 => rtn (z41, (V7, J7, R7))) else rtn ((-1), (V1, J, Rr))))
set_option maxHeartbeats 8000000 in
set_option maxRecDepth 100000 in
theorem m_exactly (l : Launch) (D : va_G) (cy : Nat → ClassId) (ad : Nat → Nat) (G : Nat → Nat → Int) (V J : Nat → Nat → Int) (Rr : Nat → Nat → Nat) (hI : MI G V) (hJ : VJ J) (hR : MR Rr) (x1 : Int) (bx1 : -2147483648 ≤ x1 ∧ x1 ≤ 2147483647) (x2 : Int) (bx2 : -2147483648 ≤ x2 ∧ x2 ≤ 2147483647) (x3 : Int) (bx3 : -2147483648 ≤ x3 ∧ x3 ≤ 2147483647) (x4 : Int) (bx4 : -2147483648 ≤ x4 ∧ x4 ≤ 2147483647) (hW : WP G) : xMl l D (xTY cy) yX12_exactly cX12_exactly 8 (some .long) 7 160 0 0 [.ref (ad 0), vI x1, vI x2, vI x3, vI x4] (MW cy ad V J Rr) (fun u : xS => MW cy ad u.1 u.2.1 u.2.2) (fun a (u : xS) => MS G u ∧ FBm 65282031152678148623040512 V u.1 ∧ (f_m_exactly x1 x2 x3 x4 V J Rr) (a, u)) := by
  refine xMl.mk (lv0 := [(0, .ref (ad 0)), (1, vI x1), (2, vI x2), (3, vI x3), (4, vI x4)]) (by decide) rfl (Nat.le_of_ble_eq_true rfl) (fun p e s m below meth c A C hr hnm hAe => ?_)
  have C : xC2 p s m _ meth c D A s.heap 8 cX12_exactly RX12 (xTY cy) := C
  have hB : FBm 65282031152678148623040512 V V := FBm.rf _ _
  have hF := Imp.of_eq (f_m_exactly.eq_def x1 x2 x3 x4 V J Rr)
  refine x_aload_n C.1 dX12_exactly_0 0 rfl ?_
  refine x_iload_n C.1 dX12_exactly_1 1 rfl ?_
  refine x_iload_n C.1 dX12_exactly_2 2 rfl ?_
  refine x_iload_n C.1 dX12_exactly_3 3 rfl ?_
  refine x_callVi C (As := [vI x1, vI x2, vI x3]) (rest := []) 0 (xw_at (N := 33) (i := 0) (by decide) rfl) vc_X12 (m_canGo l D cy ad G V J Rr hI hJ hR x1 ⟨by omega, by omega⟩ x2 ⟨by omega, by omega⟩ x3 ⟨by omega, by omega⟩) (l1 := []) (l2 := []) (List.append_nil _).symm (w2 := fun u : Nat → Nat → Int => MW cy ad u J Rr) (fun _ => List.append_nil _) rfl wm_yX12_canGo wn_X12 wl_X12_342 wi_yX12_canGo we_yX12_canGo hd_yX12_canGo rfl ⟨Nat.le_of_ble_eq_true rfl, Nat.le_of_ble_eq_true rfl⟩ (Nat.le_of_ble_eq_true rfl) ⟨Nat.le_of_ble_eq_true rfl, Nat.le_of_ble_eq_true rfl⟩ dX12_exactly_4 (fun z1 V1 bz1 h1 => ?_)
  obtain ⟨hI1, bq1, hx1_0, hBc1, hFc1⟩ := h1
  replace hF := calVM_i hF hFc1 hBc1
  replace hF := hF.fc bq1
  have hB1 := hB.tr hBc1 (m := 58028439341502226155700224) rfl
  refine x_if_eq C.1 (tgt := 21) dX12_exactly_7 (by decide) (by omega) (fun hc2 => ?_) (fun hc2 => ?_)
  · replace hF := hF.to (if_pos hc2)
    refine x_ldc2 C.1 (n := -1) wq_X12_345 dX12_exactly_21 ?_
    exact x_lret (S := xS) (post := (fun a (u : xS) => MS G u ∧ FBm 65282031152678148623040512 V u.1 ∧ (f_m_exactly x1 x2 x3 x4 V J Rr) (a, u))) (w1 := (fun u : xS => MW cy ad u.1 u.2.1 u.2.2)) (a := (-1)) C hr rfl dX12_exactly_24 (by decide) (V1, J, Rr) rfl ⟨⟨hI1, hJ, hR⟩, hB1, hF _ rfl⟩
  · replace hF := hF.to (if_neg hc2)
    have hon3 := Sp.on hx1_0 (by omega)
    refine x_iload C.1 dX12_exactly_10 4 rfl ?_
    refine x_iconst C.1 (n := -1) dX12_exactly_12 ?_
    refine x_bipush C.1 (n := 24) dX12_exactly_13 ?_
    refine x_callSi C (As := [vI x4, vI (-1), vI 24]) (rest := []) (m_in l D cy x4 ⟨by omega, by omega⟩ (-1) ⟨by decide, by decide⟩ 24 ⟨by decide, by decide⟩) (l1 := []) (l2 := _) rfl (w2 := fun _ => _) (fun _ => rfl) rfl wm_yX12_in wn_X12 wl_X12_126 wi_yX12_in hd_yX12_in rfl ⟨Nat.le_of_ble_eq_true rfl, Nat.le_of_ble_eq_true rfl⟩ (Nat.le_of_ble_eq_true rfl) ⟨Nat.le_of_ble_eq_true rfl, Nat.le_of_ble_eq_true rfl⟩ dX12_exactly_15 (fun z4 u4 bz4 h4 => ?_)
    obtain ⟨bq4, hx4_0, hFc4⟩ := h4
    replace hF := calR_i hF hFc4
    replace hF := hF.fc bq4
    refine x_if_ne C.1 (tgt := 25) dX12_exactly_18 (by decide) (by omega) (fun hc5 => ?_) (fun hc5 => ?_)
    · replace hF := hF.to (if_pos hc5)
      have hon6 := Sq.on hx4_0 (by omega)
      refine x_aload_n C.1 dX12_exactly_25 0 rfl ?_
      refine x_iload_n C.1 dX12_exactly_26 2 rfl ?_
      refine x_iload_n C.1 dX12_exactly_27 3 rfl ?_
      refine x_callVl C (As := [vI x2, vI x3]) (rest := []) 0 (xw_at (N := 33) (i := 0) (by decide) rfl) vc_X12 (m_goesThrough l D cy ad G V1 J Rr hI1 hJ hR x2 ⟨by omega, by omega⟩ x3 ⟨by omega, by omega⟩ hW (by omega)) (l1 := []) (l2 := []) (List.append_nil _).symm (w2 := fun u : xS => MW cy ad u.1 u.2.1 u.2.2) (fun _ => List.append_nil _) rfl wm_yX12_goesThrough wn_X12 wl_X12_347 wi_yX12_goesThrough we_yX12_goesThrough hd_yX12_goesThrough rfl ⟨Nat.le_of_ble_eq_true rfl, Nat.le_of_ble_eq_true rfl⟩ (Nat.le_of_ble_eq_true rfl) ⟨Nat.le_of_ble_eq_true rfl, Nat.le_of_ble_eq_true rfl⟩ dX12_exactly_28 (fun z7 u7 bz7 h7 => ?_)
      obtain ⟨V7, J7, R7⟩ := u7
      obtain ⟨hS7, hBc7, hFc7⟩ := h7
      replace hF := calSM_i hF hFc7 hBc7
      have hB7 := hB1.tr hBc7 (m := 7253591811175922467340288) rfl
      obtain ⟨hI7, hJ7, hR7⟩ := hS7
      dsimp only at hI7 hJ7 hR7 ⊢
      refine x_pop2 C.1 dX12_exactly_31 rfl ?_
      refine x_iload C.1 dX12_exactly_32 4 rfl ?_
      refine x_iconst C.1 (n := -1) dX12_exactly_34 ?_
      refine x_icmp_ne C.1 (tgt := 43) dX12_exactly_35 (by decide) (by omega) (by decide) (fun hc8 => ?_) (fun hc8 => ?_)
      · replace hF := hF.to (if_pos hc8)
        refine x_lconst0 C.1 dX12_exactly_43 ?_
        refine x_lstore C.1 (lv' := [(5, vJ 0), (0, .ref (ad 0)), (1, vI x1), (2, vI x2), (3, vI x3), (4, vI x4)]) dX12_exactly_44 (by decide) rfl ?_
        refine x_iconst C.1 (n := 0) dX12_exactly_46 ?_
        refine x_istore C.1 (lv' := [(7, vI 0), (5, vJ 0), (0, .ref (ad 0)), (1, vI x1), (2, vI x2), (3, vI x3), (4, vI x4)]) dX12_exactly_47 (by decide) rfl ?_
        obtain ⟨bd34, hbd34, hF⟩ := lop2_ex hF
        refine x_loop (I := fun x : Int × Int => match x with | (z32, z33) => (0 ≤ z32 ∧ z32 ≤ 20) ∧ (-9223372036854775808 ≤ z33 ∧ z33 ≤ 9223372036854775807) ∧ (∃ nf : Nat, (21 - z32).toNat < nf ∧ Imp (lop2 nf bd34 z32 z33) (f_m_exactly x1 x2 x3 x4 V J Rr))) (μ := fun x : Int × Int => match x with | (z32, z33) => (21 - z32).toNat) (wsf := fun x : Int × Int => match x with | (z32, z33) => MW cy ad V7 J7 R7) (lvf := fun x : Int × Int => match x with | (z32, z33) => [(7, vI z32), (5, vJ z33), (0, .ref (ad 0)), (1, vI x1), (2, vI x2), (3, vI x3), (4, vI x4)]) (fun x hI34x ih34 => ?_) (0, 0) ⟨⟨by decide, by decide⟩, ⟨by decide, by decide⟩, ⟨_, (by omega), hF⟩⟩ rfl rfl
        obtain ⟨z32, z33⟩ := x
        obtain ⟨bz32, bz33, nf34, hn34, hF⟩ := hI34x
        try dsimp only
        obtain ⟨nf34, rfl⟩ : ∃ mm, nf34 = mm + 1 := ⟨nf34 - 1, (Nat.succ_pred_eq_of_pos (Nat.lt_of_le_of_lt (Nat.zero_le _) hn34)).symm⟩
        replace hF := hF.to (lop2_s hbd34)
        refine x_iload C.1 dX12_exactly_49 0 rfl ?_
        refine x_bipush C.1 (n := 20) dX12_exactly_51 ?_
        refine x_icmp_ge C.1 (tgt := 80) dX12_exactly_53 (by decide) (by omega) (by decide) (fun hc38 => ?_) (fun hc38 => ?_)
        · replace hF := hF.to (if_pos hc38)
          refine x_lload C.1 dX12_exactly_80 1 rfl ?_
          exact x_lret (S := xS) (post := (fun a (u : xS) => MS G u ∧ FBm 65282031152678148623040512 V u.1 ∧ (f_m_exactly x1 x2 x3 x4 V J Rr) (a, u))) (w1 := (fun u : xS => MW cy ad u.1 u.2.1 u.2.2)) (a := z33) C hr rfl dX12_exactly_82 (by omega) (V7, J7, R7) rfl ⟨⟨hI7, hJ7, hR7⟩, hB7, hF _ rfl⟩
        · replace hF := hF.to (if_neg hc38)
          refine x_lload C.1 dX12_exactly_56 1 rfl ?_
          refine x_aload_n C.1 dX12_exactly_58 2 rfl ?_
          refine x_getA C (N := 33) (i := 0) (by decide) rfl vc_X12 wx_X12 37 (by decide) wf_X12_74 (a := 22) rfl dX12_exactly_59 ?_
          refine x_bipush C.1 (n := 20) dX12_exactly_62 ?_
          refine x_iload C.1 dX12_exactly_64 6 rfl ?_
          refine x_imul C.1 (v := 20 * x4) (by omega) dX12_exactly_66 ?_
          refine x_iload C.1 dX12_exactly_67 0 rfl ?_
          refine x_iadd C.1 (v := 20 * x4 + z32) (by omega) dX12_exactly_69 ?_
          obtain ⟨z39, ez39, bz39⟩ := hJ7.rd 22 ((20 * x4 + z32).toNat)
          replace hF := hF.to (rdb_e (z := z39) ez39)
          refine x_lald C (N := 33) (i := 22) (q := 20 * x4 + z32) (by decide) rfl (by omega) (by decide) dX12_exactly_70 (a := z39) ez39 ?_
          refine x_ladd C.1 (v := z33 + z39) (by omega) dX12_exactly_71 ?_
          refine x_wrapJg ?_
          intro z40 bz40 ew40
          replace hF := hF.to (rdb_e (z := z40) ew40.symm)
          refine x_lstore C.1 (lv' := [(5, vJ z40), (7, vI z32), (0, .ref (ad 0)), (1, vI x1), (2, vI x2), (3, vI x3), (4, vI x4)]) dX12_exactly_72 (by decide) rfl ?_
          refine x_iinc C.1 (v := z32 + 1) (lv' := [(7, vI (z32 + 1)), (5, vJ z40), (0, .ref (ad 0)), (1, vI x1), (2, vI x2), (3, vI x3), (4, vI x4)]) (by omega) dX12_exactly_74 1 rfl (by decide) rfl ?_
          refine x_goto C.1 (tgt := 49) dX12_exactly_77 (by decide) ?_
          have hmu34 : (21 - (z32 + 1)).toNat < (21 - z32).toNat := (by omega)
          exact ih34 (z32 + 1, z40) ⟨⟨by omega, by omega⟩, ⟨by omega, by omega⟩, ⟨nf34, Nat.lt_of_lt_of_le hmu34 (Nat.le_of_lt_succ hn34), hF⟩⟩ hmu34
      · replace hF := hF.to (if_neg (fun hh => hh hc8))
        refine x_aload_n C.1 dX12_exactly_38 0 rfl ?_
        obtain ⟨z41, ez41, bz41⟩ := hJ7.rd 0 39
        replace hF := hF.to (rdb_e (z := z41) ez41)
        refine x_getJ C (N := 33) (i := 0) (by decide) rfl vc_X12 wx_X12 39 (by decide) wf_X12_321 rfl dX12_exactly_39 (a := z41) ez41 ?_
        exact x_lret (S := xS) (post := (fun a (u : xS) => MS G u ∧ FBm 65282031152678148623040512 V u.1 ∧ (f_m_exactly x1 x2 x3 x4 V J Rr) (a, u))) (w1 := (fun u : xS => MW cy ad u.1 u.2.1 u.2.2)) (a := z41) C hr rfl dX12_exactly_42 (by omega) (V7, J7, R7) rfl ⟨⟨hI7, hJ7, hR7⟩, hB7, hF _ rfl⟩
    · replace hF := hF.to (if_neg (fun hh => hh hc5))
      refine x_ldc2 C.1 (n := -1) wq_X12_345 dX12_exactly_21 ?_
      exact x_lret (S := xS) (post := (fun a (u : xS) => MS G u ∧ FBm 65282031152678148623040512 V u.1 ∧ (f_m_exactly x1 x2 x3 x4 V J Rr) (a, u))) (w1 := (fun u : xS => MW cy ad u.1 u.2.1 u.2.2)) (a := (-1)) C hr rfl dX12_exactly_24 (by decide) (V1, J, Rr) rfl ⟨⟨hI1, hJ, hR⟩, hB1, hF _ rfl⟩
theorem dX12_chance_0 : decode cX12_chance 0 = .ok (.aload_n 0, 1) := by decide +kernel
theorem dX12_chance_1 : decode cX12_chance 1 = .ok (.iload_n 1, 1) := by decide +kernel
theorem dX12_chance_2 : decode cX12_chance 2 = .ok (.iload_n 2, 1) := by decide +kernel
theorem dX12_chance_3 : decode cX12_chance 3 = .ok (.iload_n 3, 1) := by decide +kernel
theorem dX12_chance_4 : decode cX12_chance 4 = .ok (.invokevirtual 342, 3) := by decide +kernel
theorem dX12_chance_7 : decode cX12_chance 7 = .ok (.ifCond .eq 13, 3) := by decide +kernel
theorem dX12_chance_10 : decode cX12_chance 10 = .ok (.iload 4, 2) := by decide +kernel
theorem dX12_chance_12 : decode cX12_chance 12 = .ok (.iconst 0, 1) := by decide +kernel
theorem dX12_chance_13 : decode cX12_chance 13 = .ok (.iconst 1, 1) := by decide +kernel
theorem dX12_chance_14 : decode cX12_chance 14 = .ok (.invokestatic 126, 3) := by decide +kernel
theorem dX12_chance_17 : decode cX12_chance 17 = .ok (.ifCond .ne 7, 3) := by decide +kernel
theorem dX12_chance_20 : decode cX12_chance 20 = .ok (.ldc2_w 345, 3) := by decide +kernel
theorem dX12_chance_23 : decode cX12_chance 23 = .ok (.lreturn, 1) := by decide +kernel
theorem dX12_chance_24 : decode cX12_chance 24 = .ok (.iconst 0, 1) := by decide +kernel
theorem dX12_chance_25 : decode cX12_chance 25 = .ok (.istore 5, 2) := by decide +kernel
theorem dX12_chance_27 : decode cX12_chance 27 = .ok (.ldc2_w 345, 3) := by decide +kernel
theorem dX12_chance_30 : decode cX12_chance 30 = .ok (.lstore 6, 2) := by decide +kernel
theorem dX12_chance_32 : decode cX12_chance 32 = .ok (.iconst 0, 1) := by decide +kernel
theorem dX12_chance_33 : decode cX12_chance 33 = .ok (.istore 8, 2) := by decide +kernel
theorem dX12_chance_35 : decode cX12_chance 35 = .ok (.iload 8, 2) := by decide +kernel
theorem dX12_chance_37 : decode cX12_chance 37 = .ok (.bipush 10, 2) := by decide +kernel
theorem dX12_chance_39 : decode cX12_chance 39 = .ok (.if_icmp .gt 60, 3) := by decide +kernel
theorem dX12_chance_42 : decode cX12_chance 42 = .ok (.iconst 0, 1) := by decide +kernel
theorem dX12_chance_43 : decode cX12_chance 43 = .ok (.istore 9, 2) := by decide +kernel
theorem dX12_chance_45 : decode cX12_chance 45 = .ok (.iload 9, 2) := by decide +kernel
theorem dX12_chance_47 : decode cX12_chance 47 = .ok (.iload_n 3, 1) := by decide +kernel
theorem dX12_chance_48 : decode cX12_chance 48 = .ok (.if_icmp .ge 18, 3) := by decide +kernel
theorem dX12_chance_51 : decode cX12_chance 51 = .ok (.aload_n 0, 1) := by decide +kernel
theorem dX12_chance_52 : decode cX12_chance 52 = .ok (.getfield 71, 3) := by decide +kernel
theorem dX12_chance_55 : decode cX12_chance 55 = .ok (.iload 9, 2) := by decide +kernel
theorem dX12_chance_57 : decode cX12_chance 57 = .ok (.iload 8, 2) := by decide +kernel
theorem dX12_chance_59 : decode cX12_chance 59 = .ok (.iastore, 1) := by decide +kernel
theorem dX12_chance_60 : decode cX12_chance 60 = .ok (.iinc 9 1, 3) := by decide +kernel
theorem dX12_chance_63 : decode cX12_chance 63 = .ok (.goto (-18), 3) := by decide +kernel
theorem dX12_chance_66 : decode cX12_chance 66 = .ok (.aload_n 0, 1) := by decide +kernel
theorem dX12_chance_67 : decode cX12_chance 67 = .ok (.iload_n 2, 1) := by decide +kernel
theorem dX12_chance_68 : decode cX12_chance 68 = .ok (.iload_n 3, 1) := by decide +kernel
theorem dX12_chance_69 : decode cX12_chance 69 = .ok (.invokevirtual 347, 3) := by decide +kernel
theorem dX12_chance_72 : decode cX12_chance 72 = .ok (.lstore 9, 2) := by decide +kernel
theorem dX12_chance_74 : decode cX12_chance 74 = .ok (.lload 9, 2) := by decide +kernel
theorem dX12_chance_76 : decode cX12_chance 76 = .ok (.lload 6, 2) := by decide +kernel
theorem dX12_chance_78 : decode cX12_chance 78 = .ok (.lcmp, 1) := by decide +kernel
theorem dX12_chance_79 : decode cX12_chance 79 = .ok (.ifCond .gt 6, 3) := by decide +kernel
theorem dX12_chance_82 : decode cX12_chance 82 = .ok (.goto 11, 3) := by decide +kernel
theorem dX12_chance_85 : decode cX12_chance 85 = .ok (.lload 9, 2) := by decide +kernel
theorem dX12_chance_87 : decode cX12_chance 87 = .ok (.lstore 6, 2) := by decide +kernel
theorem dX12_chance_89 : decode cX12_chance 89 = .ok (.iload 8, 2) := by decide +kernel
theorem dX12_chance_91 : decode cX12_chance 91 = .ok (.istore 5, 2) := by decide +kernel
theorem dX12_chance_93 : decode cX12_chance 93 = .ok (.iinc 8 1, 3) := by decide +kernel
theorem dX12_chance_96 : decode cX12_chance 96 = .ok (.goto (-61), 3) := by decide +kernel
theorem dX12_chance_99 : decode cX12_chance 99 = .ok (.iload 4, 2) := by decide +kernel
theorem dX12_chance_101 : decode cX12_chance 101 = .ok (.ifCond .ne 9, 3) := by decide +kernel
theorem dX12_chance_104 : decode cX12_chance 104 = .ok (.iload 5, 2) := by decide +kernel
theorem dX12_chance_106 : decode cX12_chance 106 = .ok (.i2l, 1) := by decide +kernel
theorem dX12_chance_107 : decode cX12_chance 107 = .ok (.goto 5, 3) := by decide +kernel
theorem dX12_chance_110 : decode cX12_chance 110 = .ok (.lload 6, 2) := by decide +kernel
theorem dX12_chance_112 : decode cX12_chance 112 = .ok (.lreturn, 1) := by decide +kernel
set_option maxRecDepth 100000 in
def f_m_chance (x1 : Int) (x2 : Int) (x3 : Int) (x4 : Int) (V : Nat → Nat → Int) (J : Nat → Nat → Int) (Rr : Nat → Nat → Nat) : (Int × xS) → Prop :=
  calVM 58028439341502226155700224 V (f_m_canGo x1 x2 x3 V J Rr) fun z1 V1 => fct (0 ≤ z1 ∧ z1 ≤ 1) <| (if z1 = 0 then rtn ((-1), (V1, J, Rr)) else calR (f_m_in x4 0 1) fun z4 => fct (0 ≤ z4 ∧ z4 ≤ 1) <| (if ¬ z4 = 0 then lop6 (13) (fun rc431 (z428 : Int) (z429 : Int) (z430 : Int) (V431 : Nat → Nat → Int) (J431 : Nat → Nat → Int) (R431 : Nat → Nat → Nat) => (if 10 < z428 then (if ¬ x4 = 0 then rtn (z429, (V431, J431, R431)) else rtn (z430, (V431, J431, R431))) else lop2 (5) (fun rc621 (z620 : Int) (V621 : Nat → Nat → Int) => (if x3 ≤ z620 then calSM 7253591811175922467340288 V621 (f_m_goesThrough x2 x3 V621 J431 R431) fun z633 V633 J633 R633 => jnk (fun (z635 : Int) (z636 : Int) => rc431 (z428 + 1) z636 z635 V633 J633 R633) fun jf637 => (if 0 < (lcI z633 z429) then jf637 z428 z633 else jf637 z430 z429) else rdb (up2 V621 21 z620.toNat z428) fun V639 => rc621 (z620 + 1) V639)) 0 V431)) 0 ((-1)) 0 V1 J Rr else rtn ((-1), (V1, J, Rr))))
set_option maxHeartbeats 8000000 in
set_option maxRecDepth 100000 in
theorem m_chance (l : Launch) (D : va_G) (cy : Nat → ClassId) (ad : Nat → Nat) (G : Nat → Nat → Int) (V J : Nat → Nat → Int) (Rr : Nat → Nat → Nat) (hI : MI G V) (hJ : VJ J) (hR : MR Rr) (x1 : Int) (bx1 : -2147483648 ≤ x1 ∧ x1 ≤ 2147483647) (x2 : Int) (bx2 : -2147483648 ≤ x2 ∧ x2 ≤ 2147483647) (x3 : Int) (bx3 : -2147483648 ≤ x3 ∧ x3 ≤ 2147483647) (x4 : Int) (bx4 : -2147483648 ≤ x4 ∧ x4 ≤ 2147483647) (hW : WP G) : xMl l D (xTY cy) yX12_chance cX12_chance 11 (some .long) 7 160 0 0 [.ref (ad 0), vI x1, vI x2, vI x3, vI x4] (MW cy ad V J Rr) (fun u : xS => MW cy ad u.1 u.2.1 u.2.2) (fun a (u : xS) => MS G u ∧ FBm 65282031152678148623040512 V u.1 ∧ (f_m_chance x1 x2 x3 x4 V J Rr) (a, u)) := by
  refine xMl.mk (lv0 := [(0, .ref (ad 0)), (1, vI x1), (2, vI x2), (3, vI x3), (4, vI x4)]) (by decide) rfl (Nat.le_of_ble_eq_true rfl) (fun p e s m below meth c A C hr hnm hAe => ?_)
  have C : xC2 p s m _ meth c D A s.heap 11 cX12_chance RX12 (xTY cy) := C
  have hB : FBm 65282031152678148623040512 V V := FBm.rf _ _
  have hF := Imp.of_eq (f_m_chance.eq_def x1 x2 x3 x4 V J Rr)
  refine x_aload_n C.1 dX12_chance_0 0 rfl ?_
  refine x_iload_n C.1 dX12_chance_1 1 rfl ?_
  refine x_iload_n C.1 dX12_chance_2 2 rfl ?_
  refine x_iload_n C.1 dX12_chance_3 3 rfl ?_
  refine x_callVi C (As := [vI x1, vI x2, vI x3]) (rest := []) 0 (xw_at (N := 33) (i := 0) (by decide) rfl) vc_X12 (m_canGo l D cy ad G V J Rr hI hJ hR x1 ⟨by omega, by omega⟩ x2 ⟨by omega, by omega⟩ x3 ⟨by omega, by omega⟩) (l1 := []) (l2 := []) (List.append_nil _).symm (w2 := fun u : Nat → Nat → Int => MW cy ad u J Rr) (fun _ => List.append_nil _) rfl wm_yX12_canGo wn_X12 wl_X12_342 wi_yX12_canGo we_yX12_canGo hd_yX12_canGo rfl ⟨Nat.le_of_ble_eq_true rfl, Nat.le_of_ble_eq_true rfl⟩ (Nat.le_of_ble_eq_true rfl) ⟨Nat.le_of_ble_eq_true rfl, Nat.le_of_ble_eq_true rfl⟩ dX12_chance_4 (fun z1 V1 bz1 h1 => ?_)
  obtain ⟨hI1, bq1, hx1_0, hBc1, hFc1⟩ := h1
  replace hF := calVM_i hF hFc1 hBc1
  replace hF := hF.fc bq1
  have hB1 := hB.tr hBc1 (m := 58028439341502226155700224) rfl
  refine x_if_eq C.1 (tgt := 20) dX12_chance_7 (by decide) (by omega) (fun hc2 => ?_) (fun hc2 => ?_)
  · replace hF := hF.to (if_pos hc2)
    refine x_ldc2 C.1 (n := -1) wq_X12_345 dX12_chance_20 ?_
    exact x_lret (S := xS) (post := (fun a (u : xS) => MS G u ∧ FBm 65282031152678148623040512 V u.1 ∧ (f_m_chance x1 x2 x3 x4 V J Rr) (a, u))) (w1 := (fun u : xS => MW cy ad u.1 u.2.1 u.2.2)) (a := (-1)) C hr rfl dX12_chance_23 (by decide) (V1, J, Rr) rfl ⟨⟨hI1, hJ, hR⟩, hB1, hF _ rfl⟩
  · replace hF := hF.to (if_neg hc2)
    have hon3 := Sp.on hx1_0 (by omega)
    refine x_iload C.1 dX12_chance_10 4 rfl ?_
    refine x_iconst C.1 (n := 0) dX12_chance_12 ?_
    refine x_iconst C.1 (n := 1) dX12_chance_13 ?_
    refine x_callSi C (As := [vI x4, vI 0, vI 1]) (rest := []) (m_in l D cy x4 ⟨by omega, by omega⟩ 0 ⟨by decide, by decide⟩ 1 ⟨by decide, by decide⟩) (l1 := []) (l2 := _) rfl (w2 := fun _ => _) (fun _ => rfl) rfl wm_yX12_in wn_X12 wl_X12_126 wi_yX12_in hd_yX12_in rfl ⟨Nat.le_of_ble_eq_true rfl, Nat.le_of_ble_eq_true rfl⟩ (Nat.le_of_ble_eq_true rfl) ⟨Nat.le_of_ble_eq_true rfl, Nat.le_of_ble_eq_true rfl⟩ dX12_chance_14 (fun z4 u4 bz4 h4 => ?_)
    obtain ⟨bq4, hx4_0, hFc4⟩ := h4
    replace hF := calR_i hF hFc4
    replace hF := hF.fc bq4
    refine x_if_ne C.1 (tgt := 24) dX12_chance_17 (by decide) (by omega) (fun hc5 => ?_) (fun hc5 => ?_)
    · replace hF := hF.to (if_pos hc5)
      have hon6 := Sq.on hx4_0 (by omega)
      refine x_iconst C.1 (n := 0) dX12_chance_24 ?_
      refine x_istore C.1 (lv' := [(5, vI 0), (0, .ref (ad 0)), (1, vI x1), (2, vI x2), (3, vI x3), (4, vI x4)]) dX12_chance_25 (by decide) rfl ?_
      refine x_ldc2 C.1 (n := -1) wq_X12_345 dX12_chance_27 ?_
      refine x_lstore C.1 (lv' := [(6, vJ (-1)), (5, vI 0), (0, .ref (ad 0)), (1, vI x1), (2, vI x2), (3, vI x3), (4, vI x4)]) dX12_chance_30 (by decide) rfl ?_
      refine x_iconst C.1 (n := 0) dX12_chance_32 ?_
      refine x_istore C.1 (lv' := [(8, vI 0), (6, vJ (-1)), (5, vI 0), (0, .ref (ad 0)), (1, vI x1), (2, vI x2), (3, vI x3), (4, vI x4)]) dX12_chance_33 (by decide) rfl ?_
      obtain ⟨bd431, hbd431, hF⟩ := lop6_ex hF
      refine x_loop (I := fun x : Int × Int × Int × (Nat → Nat → Int) × (Nat → Nat → Int) × (Nat → Nat → Nat) => match x with | (z428, z429, z430, V431, J431, R431) => (0 ≤ z428 ∧ z428 ≤ 11) ∧ (-1 ≤ z429 ∧ z429 ≤ 9223372036854775807) ∧ (0 ≤ z430 ∧ z430 ≤ 2147483647) ∧ MI G V431 ∧ FBm 65282031152678148623040512 V V431 ∧ VJ J431 ∧ MR R431 ∧ (∃ nf : Nat, (12 - z428).toNat < nf ∧ Imp (lop6 nf bd431 z428 z429 z430 V431 J431 R431) (f_m_chance x1 x2 x3 x4 V J Rr))) (μ := fun x : Int × Int × Int × (Nat → Nat → Int) × (Nat → Nat → Int) × (Nat → Nat → Nat) => match x with | (z428, z429, z430, V431, J431, R431) => (12 - z428).toNat) (wsf := fun x : Int × Int × Int × (Nat → Nat → Int) × (Nat → Nat → Int) × (Nat → Nat → Nat) => match x with | (z428, z429, z430, V431, J431, R431) => MW cy ad V431 J431 R431) (lvf := fun x : Int × Int × Int × (Nat → Nat → Int) × (Nat → Nat → Int) × (Nat → Nat → Nat) => match x with | (z428, z429, z430, V431, J431, R431) => [(8, vI z428), (6, vJ z429), (5, vI z430), (0, .ref (ad 0)), (1, vI x1), (2, vI x2), (3, vI x3), (4, vI x4)]) (fun x hI431x ih431 => ?_) (0, (-1), 0, V1, J, Rr) ⟨⟨by decide, by decide⟩, ⟨by decide, by decide⟩, ⟨by decide, by decide⟩, hI1, hB1, hJ, hR, ⟨_, (by omega), hF⟩⟩ rfl rfl
      obtain ⟨z428, z429, z430, V431, J431, R431⟩ := x
      obtain ⟨bz428, bz429, bz430, hI431, hB431, hJ431, hR431, nf431, hn431, hF⟩ := hI431x
      try dsimp only
      obtain ⟨nf431, rfl⟩ : ∃ mm, nf431 = mm + 1 := ⟨nf431 - 1, (Nat.succ_pred_eq_of_pos (Nat.lt_of_le_of_lt (Nat.zero_le _) hn431)).symm⟩
      replace hF := hF.to (lop6_s hbd431)
      refine x_iload C.1 dX12_chance_35 0 rfl ?_
      refine x_bipush C.1 (n := 10) dX12_chance_37 ?_
      refine x_icmp_gt C.1 (tgt := 99) dX12_chance_39 (by decide) (by omega) (by decide) (fun hc587 => ?_) (fun hc587 => ?_)
      · replace hF := hF.to (if_pos hc587)
        refine x_iload C.1 dX12_chance_99 7 rfl ?_
        refine x_if_ne C.1 (tgt := 110) dX12_chance_101 (by decide) (by omega) (fun hc588 => ?_) (fun hc588 => ?_)
        · replace hF := hF.to (if_pos hc588)
          refine x_lload C.1 dX12_chance_110 1 rfl ?_
          exact x_lret (S := xS) (post := (fun a (u : xS) => MS G u ∧ FBm 65282031152678148623040512 V u.1 ∧ (f_m_chance x1 x2 x3 x4 V J Rr) (a, u))) (w1 := (fun u : xS => MW cy ad u.1 u.2.1 u.2.2)) (a := z429) C hr rfl dX12_chance_112 (by omega) (V431, J431, R431) rfl ⟨⟨hI431, hJ431, hR431⟩, hB431, hF _ rfl⟩
        · replace hF := hF.to (if_neg (fun hh => hh hc588))
          refine x_iload C.1 dX12_chance_104 2 rfl ?_
          refine x_i2l C.1 dX12_chance_106 (by omega) ?_
          refine x_goto C.1 (tgt := 112) dX12_chance_107 (by decide) ?_
          exact x_lret (S := xS) (post := (fun a (u : xS) => MS G u ∧ FBm 65282031152678148623040512 V u.1 ∧ (f_m_chance x1 x2 x3 x4 V J Rr) (a, u))) (w1 := (fun u : xS => MW cy ad u.1 u.2.1 u.2.2)) (a := z430) C hr rfl dX12_chance_112 (by omega) (V431, J431, R431) rfl ⟨⟨hI431, hJ431, hR431⟩, hB431, hF _ rfl⟩
      · replace hF := hF.to (if_neg hc587)
        refine x_iconst C.1 (n := 0) dX12_chance_42 ?_
        refine x_istore C.1 (lv' := [(9, vI 0), (8, vI z428), (6, vJ z429), (5, vI z430), (0, .ref (ad 0)), (1, vI x1), (2, vI x2), (3, vI x3), (4, vI x4)]) dX12_chance_43 (by decide) rfl ?_
        obtain ⟨bd621, hbd621, hF⟩ := lop2_ex hF
        refine x_loop (I := fun x : Int × (Nat → Nat → Int) => match x with | (z620, V621) => (0 ≤ z620 ∧ z620 ≤ 3) ∧ MI G V621 ∧ FBm 65282031152678148623040512 V V621 ∧ (∃ nf : Nat, (4 - z620).toNat < nf ∧ Imp (lop2 nf bd621 z620 V621) (f_m_chance x1 x2 x3 x4 V J Rr))) (μ := fun x : Int × (Nat → Nat → Int) => match x with | (z620, V621) => (4 - z620).toNat) (wsf := fun x : Int × (Nat → Nat → Int) => match x with | (z620, V621) => MW cy ad V621 J431 R431) (lvf := fun x : Int × (Nat → Nat → Int) => match x with | (z620, V621) => [(9, vI z620), (8, vI z428), (6, vJ z429), (5, vI z430), (0, .ref (ad 0)), (1, vI x1), (2, vI x2), (3, vI x3), (4, vI x4)]) (fun x hI621x ih621 => ?_) (0, V431) ⟨⟨by decide, by decide⟩, hI431, hB431, ⟨_, (by omega), hF⟩⟩ rfl rfl
        obtain ⟨z620, V621⟩ := x
        obtain ⟨bz620, hI621, hB621, nf621, hn621, hF⟩ := hI621x
        try dsimp only
        obtain ⟨nf621, rfl⟩ : ∃ mm, nf621 = mm + 1 := ⟨nf621 - 1, (Nat.succ_pred_eq_of_pos (Nat.lt_of_le_of_lt (Nat.zero_le _) hn621)).symm⟩
        replace hF := hF.to (lop2_s hbd621)
        refine x_iload C.1 dX12_chance_45 0 rfl ?_
        refine x_iload_n C.1 dX12_chance_47 7 rfl ?_
        refine x_icmp_ge C.1 (tgt := 66) dX12_chance_48 (by decide) (by omega) (by omega) (fun hc632 => ?_) (fun hc632 => ?_)
        · replace hF := hF.to (if_pos hc632)
          refine x_aload_n C.1 dX12_chance_66 4 rfl ?_
          refine x_iload_n C.1 dX12_chance_67 6 rfl ?_
          refine x_iload_n C.1 dX12_chance_68 7 rfl ?_
          refine x_callVl C (As := [vI x2, vI x3]) (rest := []) 0 (xw_at (N := 33) (i := 0) (by decide) rfl) vc_X12 (m_goesThrough l D cy ad G V621 J431 R431 hI621 hJ431 hR431 x2 ⟨by omega, by omega⟩ x3 ⟨by omega, by omega⟩ hW (by omega)) (l1 := []) (l2 := []) (List.append_nil _).symm (w2 := fun u : xS => MW cy ad u.1 u.2.1 u.2.2) (fun _ => List.append_nil _) rfl wm_yX12_goesThrough wn_X12 wl_X12_347 wi_yX12_goesThrough we_yX12_goesThrough hd_yX12_goesThrough rfl ⟨Nat.le_of_ble_eq_true rfl, Nat.le_of_ble_eq_true rfl⟩ (Nat.le_of_ble_eq_true rfl) ⟨Nat.le_of_ble_eq_true rfl, Nat.le_of_ble_eq_true rfl⟩ dX12_chance_69 (fun z633 u633 bz633 h633 => ?_)
          obtain ⟨V633, J633, R633⟩ := u633
          obtain ⟨hS633, hBc633, hFc633⟩ := h633
          replace hF := calSM_i hF hFc633 hBc633
          have hB633 := hB621.tr hBc633 (m := 7253591811175922467340288) rfl
          obtain ⟨hI633, hJ633, hR633⟩ := hS633
          dsimp only at hI633 hJ633 hR633 ⊢
          refine x_lstore C.1 (lv' := [(9, vJ z633), (8, vI z428), (6, vJ z429), (5, vI z430), (0, .ref (ad 0)), (1, vI x1), (2, vI x2), (3, vI x3), (4, vI x4)]) dX12_chance_72 (by decide) rfl ?_
          refine x_lload C.1 dX12_chance_74 0 rfl ?_
          refine x_lload C.1 dX12_chance_76 2 rfl ?_
          refine x_lcmp C.1 rfl dX12_chance_78 (by omega) (by omega) ?_
          have bz634 := lcI_r2 z633 z429
          obtain ⟨jf637, hjf637, hF⟩ := jn_ex hF
          refine x_join (I := fun x : Int × Int => match x with | (z635, z636) => (0 ≤ z635 ∧ z635 ≤ 2147483647) ∧ (-1 ≤ z636 ∧ z636 ≤ 9223372036854775807) ∧ Imp (jf637 z635 z636) (f_m_chance x1 x2 x3 x4 V J Rr)) (wsf := fun x : Int × Int => match x with | (z635, z636) => MW cy ad V633 J633 R633) (lvf := fun x : Int × Int => match x with | (z635, z636) => [(5, vI z635), (6, vJ z636), (9, vJ z633), (8, vI z428), (0, .ref (ad 0)), (1, vI x1), (2, vI x2), (3, vI x3), (4, vI x4)]) (stf := fun x : Int × Int => match x with | (z635, z636) => []) 93 (fun x hI637x => ?_) (fun jn637 => ?_)
          · obtain ⟨z635, z636⟩ := x
            obtain ⟨bz635, bz636, hF⟩ := hI637x
            try dsimp only
            replace hF := hF.to (jn_s2 hjf637)
            refine x_iinc C.1 (v := z428 + 1) (lv' := [(8, vI (z428 + 1)), (5, vI z635), (6, vJ z636), (9, vJ z633), (0, .ref (ad 0)), (1, vI x1), (2, vI x2), (3, vI x3), (4, vI x4)]) (by omega) dX12_chance_93 3 rfl (by decide) rfl ?_
            refine x_goto C.1 (tgt := 35) dX12_chance_96 (by decide) ?_
            refine x_lv [(8, vI (z428 + 1)), (6, vJ z636), (5, vI z635), (0, .ref (ad 0)), (1, vI x1), (2, vI x2), (3, vI x3), (4, vI x4)] [0, 2, 1, 4, 5, 6, 7, 8] rfl ?_
            have hmu431 : (12 - (z428 + 1)).toNat < (12 - z428).toNat := (by omega)
            exact ih431 (z428 + 1, z636, z635, V633, J633, R633) ⟨⟨by omega, by omega⟩, ⟨by omega, by omega⟩, ⟨by omega, by omega⟩, hI633, hB633, hJ633, hR633, ⟨nf431, Nat.lt_of_lt_of_le hmu431 (Nat.le_of_lt_succ hn431), hF⟩⟩ hmu431
          · refine x_if_gt C.1 (tgt := 85) dX12_chance_79 (by decide) (by omega) (fun hc638 => ?_) (fun hc638 => ?_)
            · replace hF := hF.to (if_pos hc638)
              rw [lcI_gt] at hc638
              refine x_lload C.1 dX12_chance_85 0 rfl ?_
              refine x_lstore C.1 (lv' := [(6, vJ z633), (9, vJ z633), (8, vI z428), (5, vI z430), (0, .ref (ad 0)), (1, vI x1), (2, vI x2), (3, vI x3), (4, vI x4)]) dX12_chance_87 (by decide) rfl ?_
              refine x_iload C.1 dX12_chance_89 2 rfl ?_
              refine x_istore C.1 (lv' := [(5, vI z428), (6, vJ z633), (9, vJ z633), (8, vI z428), (0, .ref (ad 0)), (1, vI x1), (2, vI x2), (3, vI x3), (4, vI x4)]) dX12_chance_91 (by decide) rfl ?_
              exact jn637 (z428, z633) ⟨⟨by omega, by omega⟩, ⟨by omega, by omega⟩, hF⟩
            · replace hF := hF.to (if_neg hc638)
              rw [lcI_gt] at hc638
              refine x_goto C.1 (tgt := 93) dX12_chance_82 (by decide) ?_
              refine x_lv [(5, vI z430), (6, vJ z429), (9, vJ z633), (8, vI z428), (0, .ref (ad 0)), (1, vI x1), (2, vI x2), (3, vI x3), (4, vI x4)] [3, 2, 0, 1, 4, 5, 6, 7, 8] rfl ?_
              exact jn637 (z430, z429) ⟨⟨by omega, by omega⟩, ⟨by omega, by omega⟩, hF⟩
        · replace hF := hF.to (if_neg hc632)
          refine x_aload_n C.1 dX12_chance_51 4 rfl ?_
          refine x_getA C (N := 33) (i := 0) (by decide) rfl vc_X12 wx_X12 36 (by decide) wf_X12_71 (a := 21) rfl dX12_chance_52 ?_
          refine x_iload C.1 dX12_chance_55 0 rfl ?_
          refine x_iload C.1 dX12_chance_57 1 rfl ?_
          refine x_iast C (N := 33) (i := 21) (q := z620) (a := z428) (by decide) rfl (by omega) (by decide) dX12_chance_59 ?_
          refine x_gV ?_
          intro V639 hV639
          have hI639 : MI G V639 := hI621.up hV639 rfl (by omega) rfl (Or.inl (by decide))
          have hB639 := hB621.up hV639 (by rw [mkey_r (by decide)]; rfl)
          replace hF := hF.to (rdb_e (z := V639) hV639.symm)
          refine x_iinc C.1 (v := z620 + 1) (lv' := [(9, vI (z620 + 1)), (8, vI z428), (6, vJ z429), (5, vI z430), (0, .ref (ad 0)), (1, vI x1), (2, vI x2), (3, vI x3), (4, vI x4)]) (by omega) dX12_chance_60 0 rfl (by decide) rfl ?_
          refine x_goto C.1 (tgt := 45) dX12_chance_63 (by decide) ?_
          have hmu621 : (4 - (z620 + 1)).toNat < (4 - z620).toNat := (by omega)
          exact ih621 (z620 + 1, V639) ⟨⟨by omega, by omega⟩, hI639, hB639, ⟨nf621, Nat.lt_of_lt_of_le hmu621 (Nat.le_of_lt_succ hn621), hF⟩⟩ hmu621
    · replace hF := hF.to (if_neg (fun hh => hh hc5))
      refine x_ldc2 C.1 (n := -1) wq_X12_345 dX12_chance_20 ?_
      exact x_lret (S := xS) (post := (fun a (u : xS) => MS G u ∧ FBm 65282031152678148623040512 V u.1 ∧ (f_m_chance x1 x2 x3 x4 V J Rr) (a, u))) (w1 := (fun u : xS => MW cy ad u.1 u.2.1 u.2.2)) (a := (-1)) C hr rfl dX12_chance_23 (by decide) (V1, J, Rr) rfl ⟨⟨hI1, hJ, hR⟩, hB1, hF _ rfl⟩
theorem dX12_toAsk_0 : decode cX12_toAsk 0 = .ok (.aload_n 0, 1) := by decide +kernel
theorem dX12_toAsk_1 : decode cX12_toAsk 1 = .ok (.iload_n 1, 1) := by decide +kernel
theorem dX12_toAsk_2 : decode cX12_toAsk 2 = .ok (.iload_n 2, 1) := by decide +kernel
theorem dX12_toAsk_3 : decode cX12_toAsk 3 = .ok (.iload_n 3, 1) := by decide +kernel
theorem dX12_toAsk_4 : decode cX12_toAsk 4 = .ok (.invokevirtual 342, 3) := by decide +kernel
theorem dX12_toAsk_7 : decode cX12_toAsk 7 = .ok (.ifCond .eq 13, 3) := by decide +kernel
theorem dX12_toAsk_10 : decode cX12_toAsk 10 = .ok (.iload 4, 2) := by decide +kernel
theorem dX12_toAsk_12 : decode cX12_toAsk 12 = .ok (.iconst 0, 1) := by decide +kernel
theorem dX12_toAsk_13 : decode cX12_toAsk 13 = .ok (.iconst 1, 1) := by decide +kernel
theorem dX12_toAsk_14 : decode cX12_toAsk 14 = .ok (.invokestatic 126, 3) := by decide +kernel
theorem dX12_toAsk_17 : decode cX12_toAsk 17 = .ok (.ifCond .ne 7, 3) := by decide +kernel
theorem dX12_toAsk_20 : decode cX12_toAsk 20 = .ok (.ldc2_w 345, 3) := by decide +kernel
theorem dX12_toAsk_23 : decode cX12_toAsk 23 = .ok (.lreturn, 1) := by decide +kernel
theorem dX12_toAsk_24 : decode cX12_toAsk 24 = .ok (.bipush (-2), 2) := by decide +kernel
theorem dX12_toAsk_26 : decode cX12_toAsk 26 = .ok (.istore 5, 2) := by decide +kernel
theorem dX12_toAsk_28 : decode cX12_toAsk 28 = .ok (.aload_n 0, 1) := by decide +kernel
theorem dX12_toAsk_29 : decode cX12_toAsk 29 = .ok (.iload_n 2, 1) := by decide +kernel
theorem dX12_toAsk_30 : decode cX12_toAsk 30 = .ok (.iload_n 3, 1) := by decide +kernel
theorem dX12_toAsk_31 : decode cX12_toAsk 31 = .ok (.invokevirtual 347, 3) := by decide +kernel
theorem dX12_toAsk_34 : decode cX12_toAsk 34 = .ok (.lstore 6, 2) := by decide +kernel
theorem dX12_toAsk_36 : decode cX12_toAsk 36 = .ok (.iconst 0, 1) := by decide +kernel
theorem dX12_toAsk_37 : decode cX12_toAsk 37 = .ok (.istore 8, 2) := by decide +kernel
theorem dX12_toAsk_39 : decode cX12_toAsk 39 = .ok (.iload 8, 2) := by decide +kernel
theorem dX12_toAsk_41 : decode cX12_toAsk 41 = .ok (.iload_n 3, 1) := by decide +kernel
theorem dX12_toAsk_42 : decode cX12_toAsk 42 = .ok (.if_icmp .ge 96, 3) := by decide +kernel
theorem dX12_toAsk_45 : decode cX12_toAsk 45 = .ok (.iconst 0, 1) := by decide +kernel
theorem dX12_toAsk_46 : decode cX12_toAsk 46 = .ok (.istore 9, 2) := by decide +kernel
theorem dX12_toAsk_48 : decode cX12_toAsk 48 = .ok (.iload 9, 2) := by decide +kernel
theorem dX12_toAsk_50 : decode cX12_toAsk 50 = .ok (.iload_n 3, 1) := by decide +kernel
theorem dX12_toAsk_51 : decode cX12_toAsk 51 = .ok (.if_icmp .ge 49, 3) := by decide +kernel
theorem dX12_toAsk_54 : decode cX12_toAsk 54 = .ok (.aload_n 0, 1) := by decide +kernel
theorem dX12_toAsk_55 : decode cX12_toAsk 55 = .ok (.getfield 71, 3) := by decide +kernel
theorem dX12_toAsk_58 : decode cX12_toAsk 58 = .ok (.iload 9, 2) := by decide +kernel
theorem dX12_toAsk_60 : decode cX12_toAsk 60 = .ok (.iload 9, 2) := by decide +kernel
theorem dX12_toAsk_62 : decode cX12_toAsk 62 = .ok (.iload 8, 2) := by decide +kernel
theorem dX12_toAsk_64 : decode cX12_toAsk 64 = .ok (.if_icmp .ne 8, 3) := by decide +kernel
theorem dX12_toAsk_67 : decode cX12_toAsk 67 = .ok (.bipush 10, 2) := by decide +kernel
theorem dX12_toAsk_69 : decode cX12_toAsk 69 = .ok (.goto 24, 3) := by decide +kernel
theorem dX12_toAsk_72 : decode cX12_toAsk 72 = .ok (.iconst 0, 1) := by decide +kernel
theorem dX12_toAsk_73 : decode cX12_toAsk 73 = .ok (.aload_n 0, 1) := by decide +kernel
theorem dX12_toAsk_74 : decode cX12_toAsk 74 = .ok (.getfield 7, 3) := by decide +kernel
theorem dX12_toAsk_77 : decode cX12_toAsk 77 = .ok (.bipush 52, 2) := by decide +kernel
theorem dX12_toAsk_79 : decode cX12_toAsk 79 = .ok (.aload_n 0, 1) := by decide +kernel
theorem dX12_toAsk_80 : decode cX12_toAsk 80 = .ok (.getfield 68, 3) := by decide +kernel
theorem dX12_toAsk_83 : decode cX12_toAsk 83 = .ok (.iload 9, 2) := by decide +kernel
theorem dX12_toAsk_85 : decode cX12_toAsk 85 = .ok (.iaload, 1) := by decide +kernel
theorem dX12_toAsk_86 : decode cX12_toAsk 86 = .ok (.iadd, 1) := by decide +kernel
theorem dX12_toAsk_87 : decode cX12_toAsk 87 = .ok (.iaload, 1) := by decide +kernel
theorem dX12_toAsk_88 : decode cX12_toAsk 88 = .ok (.iconst 2, 1) := by decide +kernel
theorem dX12_toAsk_89 : decode cX12_toAsk 89 = .ok (.isub, 1) := by decide +kernel
theorem dX12_toAsk_90 : decode cX12_toAsk 90 = .ok (.invokestatic 272, 3) := by decide +kernel
theorem dX12_toAsk_93 : decode cX12_toAsk 93 = .ok (.iastore, 1) := by decide +kernel
theorem dX12_toAsk_94 : decode cX12_toAsk 94 = .ok (.iinc 9 1, 3) := by decide +kernel
theorem dX12_toAsk_97 : decode cX12_toAsk 97 = .ok (.goto (-49), 3) := by decide +kernel
theorem dX12_toAsk_100 : decode cX12_toAsk 100 = .ok (.aload_n 0, 1) := by decide +kernel
theorem dX12_toAsk_101 : decode cX12_toAsk 101 = .ok (.iload_n 2, 1) := by decide +kernel
theorem dX12_toAsk_102 : decode cX12_toAsk 102 = .ok (.iload_n 3, 1) := by decide +kernel
theorem dX12_toAsk_103 : decode cX12_toAsk 103 = .ok (.invokevirtual 347, 3) := by decide +kernel
theorem dX12_toAsk_106 : decode cX12_toAsk 106 = .ok (.lstore 9, 2) := by decide +kernel
theorem dX12_toAsk_108 : decode cX12_toAsk 108 = .ok (.lload 9, 2) := by decide +kernel
theorem dX12_toAsk_110 : decode cX12_toAsk 110 = .ok (.lload 6, 2) := by decide +kernel
theorem dX12_toAsk_112 : decode cX12_toAsk 112 = .ok (.lcmp, 1) := by decide +kernel
theorem dX12_toAsk_113 : decode cX12_toAsk 113 = .ok (.ifCond .gt 6, 3) := by decide +kernel
theorem dX12_toAsk_116 : decode cX12_toAsk 116 = .ok (.goto 16, 3) := by decide +kernel
theorem dX12_toAsk_119 : decode cX12_toAsk 119 = .ok (.lload 9, 2) := by decide +kernel
theorem dX12_toAsk_121 : decode cX12_toAsk 121 = .ok (.lstore 6, 2) := by decide +kernel
theorem dX12_toAsk_123 : decode cX12_toAsk 123 = .ok (.aload_n 0, 1) := by decide +kernel
theorem dX12_toAsk_124 : decode cX12_toAsk 124 = .ok (.getfield 68, 3) := by decide +kernel
theorem dX12_toAsk_127 : decode cX12_toAsk 127 = .ok (.iload 8, 2) := by decide +kernel
theorem dX12_toAsk_129 : decode cX12_toAsk 129 = .ok (.iaload, 1) := by decide +kernel
theorem dX12_toAsk_130 : decode cX12_toAsk 130 = .ok (.istore 5, 2) := by decide +kernel
theorem dX12_toAsk_132 : decode cX12_toAsk 132 = .ok (.iinc 8 1, 3) := by decide +kernel
theorem dX12_toAsk_135 : decode cX12_toAsk 135 = .ok (.goto (-96), 3) := by decide +kernel
theorem dX12_toAsk_138 : decode cX12_toAsk 138 = .ok (.iload 4, 2) := by decide +kernel
theorem dX12_toAsk_140 : decode cX12_toAsk 140 = .ok (.ifCond .ne 9, 3) := by decide +kernel
theorem dX12_toAsk_143 : decode cX12_toAsk 143 = .ok (.iload 5, 2) := by decide +kernel
theorem dX12_toAsk_145 : decode cX12_toAsk 145 = .ok (.i2l, 1) := by decide +kernel
theorem dX12_toAsk_146 : decode cX12_toAsk 146 = .ok (.goto 5, 3) := by decide +kernel
theorem dX12_toAsk_149 : decode cX12_toAsk 149 = .ok (.lload 6, 2) := by decide +kernel
theorem dX12_toAsk_151 : decode cX12_toAsk 151 = .ok (.lreturn, 1) := by decide +kernel
set_option maxRecDepth 100000 in
def f_m_toAsk (x1 : Int) (x2 : Int) (x3 : Int) (x4 : Int) (V : Nat → Nat → Int) (J : Nat → Nat → Int) (Rr : Nat → Nat → Nat) : (Int × xS) → Prop :=
  calVM 58028439341502226155700224 V (f_m_canGo x1 x2 x3 V J Rr) fun z1 V1 => fct (0 ≤ z1 ∧ z1 ≤ 1) <| (if z1 = 0 then rtn ((-1), (V1, J, Rr)) else calR (f_m_in x4 0 1) fun z4 => fct (0 ≤ z4 ∧ z4 ≤ 1) <| (if ¬ z4 = 0 then calSM 7253591811175922467340288 V1 (f_m_goesThrough x2 x3 V1 J Rr) fun z7 V7 J7 R7 => lop6 (5) (fun rc1441 (z1438 : Int) (z1439 : Int) (z1440 : Int) (V1441 : Nat → Nat → Int) (J1441 : Nat → Nat → Int) (R1441 : Nat → Nat → Nat) => (if x3 ≤ z1438 then (if ¬ x4 = 0 then rtn (z1439, (V1441, J1441, R1441)) else rtn (z1440, (V1441, J1441, R1441))) else lop2 (5) (fun rc2187 (z2186 : Int) (V2187 : Nat → Nat → Int) => (if x3 ≤ z2186 then calSM 7253591811175922467340288 V2187 (f_m_goesThrough x2 x3 V2187 J1441 R1441) fun z2240 V2240 J2240 R2240 => jnk (fun (z2243 : Int) (z2244 : Int) => rc1441 (z1438 + 1) z2244 z2243 V2240 J2240 R2240) fun jf2245 => (if 0 < (lcI z2240 z1439) then rdb (V2240 20 z1438.toNat) fun z2247 => fct (0 ≤ z2247 ∧ z2247 ≤ 7) <| jf2245 z2247 z2240 else jf2245 z1440 z1439) else jnk (fun (z2253 : Int) => rdb (up2 V2187 21 z2186.toNat z2253) fun V2255 => rc2187 (z2186 + 1) V2255) fun jf2254 => (if ¬ z2186 = z1438 then rdb (V2187 20 z2186.toNat) fun z2257 => fct (0 ≤ z2257 ∧ z2257 ≤ 7) <| rdb (V2187 1 ((z2257 + 52).toNat)) fun z2258 => rdb (wr (z2258 - 2)) fun z2259 => calR (f_m_max 0 z2259) fun z2260 => jf2254 z2260 else jf2254 10))) 0 V1441)) 0 z7 ((-2)) V7 J7 R7 else rtn ((-1), (V1, J, Rr))))
set_option maxHeartbeats 8000000 in
set_option maxRecDepth 100000 in
theorem m_toAsk (l : Launch) (D : va_G) (cy : Nat → ClassId) (ad : Nat → Nat) (G : Nat → Nat → Int) (V J : Nat → Nat → Int) (Rr : Nat → Nat → Nat) (hI : MI G V) (hJ : VJ J) (hR : MR Rr) (x1 : Int) (bx1 : -2147483648 ≤ x1 ∧ x1 ≤ 2147483647) (x2 : Int) (bx2 : -2147483648 ≤ x2 ∧ x2 ≤ 2147483647) (x3 : Int) (bx3 : -2147483648 ≤ x3 ∧ x3 ≤ 2147483647) (x4 : Int) (bx4 : -2147483648 ≤ x4 ∧ x4 ≤ 2147483647) (hW : WP G) : xMl l D (xTY cy) yX12_toAsk cX12_toAsk 11 (some .long) 7 160 0 0 [.ref (ad 0), vI x1, vI x2, vI x3, vI x4] (MW cy ad V J Rr) (fun u : xS => MW cy ad u.1 u.2.1 u.2.2) (fun a (u : xS) => MS G u ∧ FBm 65282031152678148623040512 V u.1 ∧ (f_m_toAsk x1 x2 x3 x4 V J Rr) (a, u)) := by
  refine xMl.mk (lv0 := [(0, .ref (ad 0)), (1, vI x1), (2, vI x2), (3, vI x3), (4, vI x4)]) (by decide) rfl (Nat.le_of_ble_eq_true rfl) (fun p e s m below meth c A C hr hnm hAe => ?_)
  have C : xC2 p s m _ meth c D A s.heap 11 cX12_toAsk RX12 (xTY cy) := C
  have hB : FBm 65282031152678148623040512 V V := FBm.rf _ _
  have hF := Imp.of_eq (f_m_toAsk.eq_def x1 x2 x3 x4 V J Rr)
  refine x_aload_n C.1 dX12_toAsk_0 0 rfl ?_
  refine x_iload_n C.1 dX12_toAsk_1 1 rfl ?_
  refine x_iload_n C.1 dX12_toAsk_2 2 rfl ?_
  refine x_iload_n C.1 dX12_toAsk_3 3 rfl ?_
  refine x_callVi C (As := [vI x1, vI x2, vI x3]) (rest := []) 0 (xw_at (N := 33) (i := 0) (by decide) rfl) vc_X12 (m_canGo l D cy ad G V J Rr hI hJ hR x1 ⟨by omega, by omega⟩ x2 ⟨by omega, by omega⟩ x3 ⟨by omega, by omega⟩) (l1 := []) (l2 := []) (List.append_nil _).symm (w2 := fun u : Nat → Nat → Int => MW cy ad u J Rr) (fun _ => List.append_nil _) rfl wm_yX12_canGo wn_X12 wl_X12_342 wi_yX12_canGo we_yX12_canGo hd_yX12_canGo rfl ⟨Nat.le_of_ble_eq_true rfl, Nat.le_of_ble_eq_true rfl⟩ (Nat.le_of_ble_eq_true rfl) ⟨Nat.le_of_ble_eq_true rfl, Nat.le_of_ble_eq_true rfl⟩ dX12_toAsk_4 (fun z1 V1 bz1 h1 => ?_)
  obtain ⟨hI1, bq1, hx1_0, hBc1, hFc1⟩ := h1
  replace hF := calVM_i hF hFc1 hBc1
  replace hF := hF.fc bq1
  have hB1 := hB.tr hBc1 (m := 58028439341502226155700224) rfl
  refine x_if_eq C.1 (tgt := 20) dX12_toAsk_7 (by decide) (by omega) (fun hc2 => ?_) (fun hc2 => ?_)
  · replace hF := hF.to (if_pos hc2)
    refine x_ldc2 C.1 (n := -1) wq_X12_345 dX12_toAsk_20 ?_
    exact x_lret (S := xS) (post := (fun a (u : xS) => MS G u ∧ FBm 65282031152678148623040512 V u.1 ∧ (f_m_toAsk x1 x2 x3 x4 V J Rr) (a, u))) (w1 := (fun u : xS => MW cy ad u.1 u.2.1 u.2.2)) (a := (-1)) C hr rfl dX12_toAsk_23 (by decide) (V1, J, Rr) rfl ⟨⟨hI1, hJ, hR⟩, hB1, hF _ rfl⟩
  · replace hF := hF.to (if_neg hc2)
    have hon3 := Sp.on hx1_0 (by omega)
    refine x_iload C.1 dX12_toAsk_10 4 rfl ?_
    refine x_iconst C.1 (n := 0) dX12_toAsk_12 ?_
    refine x_iconst C.1 (n := 1) dX12_toAsk_13 ?_
    refine x_callSi C (As := [vI x4, vI 0, vI 1]) (rest := []) (m_in l D cy x4 ⟨by omega, by omega⟩ 0 ⟨by decide, by decide⟩ 1 ⟨by decide, by decide⟩) (l1 := []) (l2 := _) rfl (w2 := fun _ => _) (fun _ => rfl) rfl wm_yX12_in wn_X12 wl_X12_126 wi_yX12_in hd_yX12_in rfl ⟨Nat.le_of_ble_eq_true rfl, Nat.le_of_ble_eq_true rfl⟩ (Nat.le_of_ble_eq_true rfl) ⟨Nat.le_of_ble_eq_true rfl, Nat.le_of_ble_eq_true rfl⟩ dX12_toAsk_14 (fun z4 u4 bz4 h4 => ?_)
    obtain ⟨bq4, hx4_0, hFc4⟩ := h4
    replace hF := calR_i hF hFc4
    replace hF := hF.fc bq4
    refine x_if_ne C.1 (tgt := 24) dX12_toAsk_17 (by decide) (by omega) (fun hc5 => ?_) (fun hc5 => ?_)
    · replace hF := hF.to (if_pos hc5)
      have hon6 := Sq.on hx4_0 (by omega)
      refine x_bipush C.1 (n := -2) dX12_toAsk_24 ?_
      refine x_istore C.1 (lv' := [(5, vI (-2)), (0, .ref (ad 0)), (1, vI x1), (2, vI x2), (3, vI x3), (4, vI x4)]) dX12_toAsk_26 (by decide) rfl ?_
      refine x_aload_n C.1 dX12_toAsk_28 1 rfl ?_
      refine x_iload_n C.1 dX12_toAsk_29 3 rfl ?_
      refine x_iload_n C.1 dX12_toAsk_30 4 rfl ?_
      refine x_callVl C (As := [vI x2, vI x3]) (rest := []) 0 (xw_at (N := 33) (i := 0) (by decide) rfl) vc_X12 (m_goesThrough l D cy ad G V1 J Rr hI1 hJ hR x2 ⟨by omega, by omega⟩ x3 ⟨by omega, by omega⟩ hW (by omega)) (l1 := []) (l2 := []) (List.append_nil _).symm (w2 := fun u : xS => MW cy ad u.1 u.2.1 u.2.2) (fun _ => List.append_nil _) rfl wm_yX12_goesThrough wn_X12 wl_X12_347 wi_yX12_goesThrough we_yX12_goesThrough hd_yX12_goesThrough rfl ⟨Nat.le_of_ble_eq_true rfl, Nat.le_of_ble_eq_true rfl⟩ (Nat.le_of_ble_eq_true rfl) ⟨Nat.le_of_ble_eq_true rfl, Nat.le_of_ble_eq_true rfl⟩ dX12_toAsk_31 (fun z7 u7 bz7 h7 => ?_)
      obtain ⟨V7, J7, R7⟩ := u7
      obtain ⟨hS7, hBc7, hFc7⟩ := h7
      replace hF := calSM_i hF hFc7 hBc7
      have hB7 := hB1.tr hBc7 (m := 7253591811175922467340288) rfl
      obtain ⟨hI7, hJ7, hR7⟩ := hS7
      dsimp only at hI7 hJ7 hR7 ⊢
      refine x_lstore C.1 (lv' := [(6, vJ z7), (5, vI (-2)), (0, .ref (ad 0)), (1, vI x1), (2, vI x2), (3, vI x3), (4, vI x4)]) dX12_toAsk_34 (by decide) rfl ?_
      refine x_iconst C.1 (n := 0) dX12_toAsk_36 ?_
      refine x_istore C.1 (lv' := [(8, vI 0), (6, vJ z7), (5, vI (-2)), (0, .ref (ad 0)), (1, vI x1), (2, vI x2), (3, vI x3), (4, vI x4)]) dX12_toAsk_37 (by decide) rfl ?_
      obtain ⟨bd1441, hbd1441, hF⟩ := lop6_ex hF
      refine x_loop (I := fun x : Int × Int × Int × (Nat → Nat → Int) × (Nat → Nat → Int) × (Nat → Nat → Nat) => match x with | (z1438, z1439, z1440, V1441, J1441, R1441) => (0 ≤ z1438 ∧ z1438 ≤ 3) ∧ (-9223372036854775808 ≤ z1439 ∧ z1439 ≤ 9223372036854775807) ∧ (-2 ≤ z1440 ∧ z1440 ≤ 7) ∧ MI G V1441 ∧ FBm 65282031152678148623040512 V V1441 ∧ VJ J1441 ∧ MR R1441 ∧ (∃ nf : Nat, (4 - z1438).toNat < nf ∧ Imp (lop6 nf bd1441 z1438 z1439 z1440 V1441 J1441 R1441) (f_m_toAsk x1 x2 x3 x4 V J Rr))) (μ := fun x : Int × Int × Int × (Nat → Nat → Int) × (Nat → Nat → Int) × (Nat → Nat → Nat) => match x with | (z1438, z1439, z1440, V1441, J1441, R1441) => (4 - z1438).toNat) (wsf := fun x : Int × Int × Int × (Nat → Nat → Int) × (Nat → Nat → Int) × (Nat → Nat → Nat) => match x with | (z1438, z1439, z1440, V1441, J1441, R1441) => MW cy ad V1441 J1441 R1441) (lvf := fun x : Int × Int × Int × (Nat → Nat → Int) × (Nat → Nat → Int) × (Nat → Nat → Nat) => match x with | (z1438, z1439, z1440, V1441, J1441, R1441) => [(8, vI z1438), (6, vJ z1439), (5, vI z1440), (0, .ref (ad 0)), (1, vI x1), (2, vI x2), (3, vI x3), (4, vI x4)]) (fun x hI1441x ih1441 => ?_) (0, z7, (-2), V7, J7, R7) ⟨⟨by decide, by decide⟩, ⟨by omega, by omega⟩, ⟨by decide, by decide⟩, hI7, hB7, hJ7, hR7, ⟨_, (by omega), hF⟩⟩ rfl rfl
      obtain ⟨z1438, z1439, z1440, V1441, J1441, R1441⟩ := x
      obtain ⟨bz1438, bz1439, bz1440, hI1441, hB1441, hJ1441, hR1441, nf1441, hn1441, hF⟩ := hI1441x
      try dsimp only
      obtain ⟨nf1441, rfl⟩ : ∃ mm, nf1441 = mm + 1 := ⟨nf1441 - 1, (Nat.succ_pred_eq_of_pos (Nat.lt_of_le_of_lt (Nat.zero_le _) hn1441)).symm⟩
      replace hF := hF.to (lop6_s hbd1441)
      refine x_iload C.1 dX12_toAsk_39 0 rfl ?_
      refine x_iload_n C.1 dX12_toAsk_41 6 rfl ?_
      refine x_icmp_ge C.1 (tgt := 138) dX12_toAsk_42 (by decide) (by omega) (by omega) (fun hc2056 => ?_) (fun hc2056 => ?_)
      · replace hF := hF.to (if_pos hc2056)
        refine x_iload C.1 dX12_toAsk_138 7 rfl ?_
        refine x_if_ne C.1 (tgt := 149) dX12_toAsk_140 (by decide) (by omega) (fun hc2057 => ?_) (fun hc2057 => ?_)
        · replace hF := hF.to (if_pos hc2057)
          refine x_lload C.1 dX12_toAsk_149 1 rfl ?_
          exact x_lret (S := xS) (post := (fun a (u : xS) => MS G u ∧ FBm 65282031152678148623040512 V u.1 ∧ (f_m_toAsk x1 x2 x3 x4 V J Rr) (a, u))) (w1 := (fun u : xS => MW cy ad u.1 u.2.1 u.2.2)) (a := z1439) C hr rfl dX12_toAsk_151 (by omega) (V1441, J1441, R1441) rfl ⟨⟨hI1441, hJ1441, hR1441⟩, hB1441, hF _ rfl⟩
        · replace hF := hF.to (if_neg (fun hh => hh hc2057))
          refine x_iload C.1 dX12_toAsk_143 2 rfl ?_
          refine x_i2l C.1 dX12_toAsk_145 (by omega) ?_
          refine x_goto C.1 (tgt := 151) dX12_toAsk_146 (by decide) ?_
          exact x_lret (S := xS) (post := (fun a (u : xS) => MS G u ∧ FBm 65282031152678148623040512 V u.1 ∧ (f_m_toAsk x1 x2 x3 x4 V J Rr) (a, u))) (w1 := (fun u : xS => MW cy ad u.1 u.2.1 u.2.2)) (a := z1440) C hr rfl dX12_toAsk_151 (by omega) (V1441, J1441, R1441) rfl ⟨⟨hI1441, hJ1441, hR1441⟩, hB1441, hF _ rfl⟩
      · replace hF := hF.to (if_neg hc2056)
        refine x_iconst C.1 (n := 0) dX12_toAsk_45 ?_
        refine x_istore C.1 (lv' := [(9, vI 0), (8, vI z1438), (6, vJ z1439), (5, vI z1440), (0, .ref (ad 0)), (1, vI x1), (2, vI x2), (3, vI x3), (4, vI x4)]) dX12_toAsk_46 (by decide) rfl ?_
        obtain ⟨bd2187, hbd2187, hF⟩ := lop2_ex hF
        refine x_loop (I := fun x : Int × (Nat → Nat → Int) => match x with | (z2186, V2187) => (0 ≤ z2186 ∧ z2186 ≤ 3) ∧ MI G V2187 ∧ FBm 65282031152678148623040512 V V2187 ∧ (∃ nf : Nat, (4 - z2186).toNat < nf ∧ Imp (lop2 nf bd2187 z2186 V2187) (f_m_toAsk x1 x2 x3 x4 V J Rr))) (μ := fun x : Int × (Nat → Nat → Int) => match x with | (z2186, V2187) => (4 - z2186).toNat) (wsf := fun x : Int × (Nat → Nat → Int) => match x with | (z2186, V2187) => MW cy ad V2187 J1441 R1441) (lvf := fun x : Int × (Nat → Nat → Int) => match x with | (z2186, V2187) => [(9, vI z2186), (8, vI z1438), (6, vJ z1439), (5, vI z1440), (0, .ref (ad 0)), (1, vI x1), (2, vI x2), (3, vI x3), (4, vI x4)]) (fun x hI2187x ih2187 => ?_) (0, V1441) ⟨⟨by decide, by decide⟩, hI1441, hB1441, ⟨_, (by omega), hF⟩⟩ rfl rfl
        obtain ⟨z2186, V2187⟩ := x
        obtain ⟨bz2186, hI2187, hB2187, nf2187, hn2187, hF⟩ := hI2187x
        try dsimp only
        obtain ⟨nf2187, rfl⟩ : ∃ mm, nf2187 = mm + 1 := ⟨nf2187 - 1, (Nat.succ_pred_eq_of_pos (Nat.lt_of_le_of_lt (Nat.zero_le _) hn2187)).symm⟩
        replace hF := hF.to (lop2_s hbd2187)
        refine x_iload C.1 dX12_toAsk_48 0 rfl ?_
        refine x_iload_n C.1 dX12_toAsk_50 7 rfl ?_
        refine x_icmp_ge C.1 (tgt := 100) dX12_toAsk_51 (by decide) (by omega) (by omega) (fun hc2239 => ?_) (fun hc2239 => ?_)
        · replace hF := hF.to (if_pos hc2239)
          refine x_aload_n C.1 dX12_toAsk_100 4 rfl ?_
          refine x_iload_n C.1 dX12_toAsk_101 6 rfl ?_
          refine x_iload_n C.1 dX12_toAsk_102 7 rfl ?_
          refine x_callVl C (As := [vI x2, vI x3]) (rest := []) 0 (xw_at (N := 33) (i := 0) (by decide) rfl) vc_X12 (m_goesThrough l D cy ad G V2187 J1441 R1441 hI2187 hJ1441 hR1441 x2 ⟨by omega, by omega⟩ x3 ⟨by omega, by omega⟩ hW (by omega)) (l1 := []) (l2 := []) (List.append_nil _).symm (w2 := fun u : xS => MW cy ad u.1 u.2.1 u.2.2) (fun _ => List.append_nil _) rfl wm_yX12_goesThrough wn_X12 wl_X12_347 wi_yX12_goesThrough we_yX12_goesThrough hd_yX12_goesThrough rfl ⟨Nat.le_of_ble_eq_true rfl, Nat.le_of_ble_eq_true rfl⟩ (Nat.le_of_ble_eq_true rfl) ⟨Nat.le_of_ble_eq_true rfl, Nat.le_of_ble_eq_true rfl⟩ dX12_toAsk_103 (fun z2240 u2240 bz2240 h2240 => ?_)
          obtain ⟨V2240, J2240, R2240⟩ := u2240
          obtain ⟨hS2240, hBc2240, hFc2240⟩ := h2240
          replace hF := calSM_i hF hFc2240 hBc2240
          have hB2240 := hB2187.tr hBc2240 (m := 7253591811175922467340288) rfl
          obtain ⟨hI2240, hJ2240, hR2240⟩ := hS2240
          dsimp only at hI2240 hJ2240 hR2240 ⊢
          refine x_lstore C.1 (lv' := [(9, vJ z2240), (8, vI z1438), (6, vJ z1439), (5, vI z1440), (0, .ref (ad 0)), (1, vI x1), (2, vI x2), (3, vI x3), (4, vI x4)]) dX12_toAsk_106 (by decide) rfl ?_
          refine x_lload C.1 dX12_toAsk_108 0 rfl ?_
          refine x_lload C.1 dX12_toAsk_110 2 rfl ?_
          refine x_lcmp C.1 rfl dX12_toAsk_112 (by omega) (by omega) ?_
          have bz2241 := lcI_r2 z2240 z1439
          obtain ⟨jf2245, hjf2245, hF⟩ := jn_ex hF
          refine x_join (I := fun x : Int × Int => match x with | (z2243, z2244) => (-2 ≤ z2243 ∧ z2243 ≤ 7) ∧ (-9223372036854775808 ≤ z2244 ∧ z2244 ≤ 9223372036854775807) ∧ Imp (jf2245 z2243 z2244) (f_m_toAsk x1 x2 x3 x4 V J Rr)) (wsf := fun x : Int × Int => match x with | (z2243, z2244) => MW cy ad V2240 J2240 R2240) (lvf := fun x : Int × Int => match x with | (z2243, z2244) => [(5, vI z2243), (6, vJ z2244), (9, vJ z2240), (8, vI z1438), (0, .ref (ad 0)), (1, vI x1), (2, vI x2), (3, vI x3), (4, vI x4)]) (stf := fun x : Int × Int => match x with | (z2243, z2244) => []) 132 (fun x hI2245x => ?_) (fun jn2245 => ?_)
          · obtain ⟨z2243, z2244⟩ := x
            obtain ⟨bz2243, bz2244, hF⟩ := hI2245x
            try dsimp only
            replace hF := hF.to (jn_s2 hjf2245)
            refine x_iinc C.1 (v := z1438 + 1) (lv' := [(8, vI (z1438 + 1)), (5, vI z2243), (6, vJ z2244), (9, vJ z2240), (0, .ref (ad 0)), (1, vI x1), (2, vI x2), (3, vI x3), (4, vI x4)]) (by omega) dX12_toAsk_132 3 rfl (by decide) rfl ?_
            refine x_goto C.1 (tgt := 39) dX12_toAsk_135 (by decide) ?_
            refine x_lv [(8, vI (z1438 + 1)), (6, vJ z2244), (5, vI z2243), (0, .ref (ad 0)), (1, vI x1), (2, vI x2), (3, vI x3), (4, vI x4)] [0, 2, 1, 4, 5, 6, 7, 8] rfl ?_
            have hmu1441 : (4 - (z1438 + 1)).toNat < (4 - z1438).toNat := (by omega)
            exact ih1441 (z1438 + 1, z2244, z2243, V2240, J2240, R2240) ⟨⟨by omega, by omega⟩, ⟨by omega, by omega⟩, ⟨by omega, by omega⟩, hI2240, hB2240, hJ2240, hR2240, ⟨nf1441, Nat.lt_of_lt_of_le hmu1441 (Nat.le_of_lt_succ hn1441), hF⟩⟩ hmu1441
          · refine x_if_gt C.1 (tgt := 119) dX12_toAsk_113 (by decide) (by omega) (fun hc2246 => ?_) (fun hc2246 => ?_)
            · replace hF := hF.to (if_pos hc2246)
              rw [lcI_gt] at hc2246
              refine x_lload C.1 dX12_toAsk_119 0 rfl ?_
              refine x_lstore C.1 (lv' := [(6, vJ z2240), (9, vJ z2240), (8, vI z1438), (5, vI z1440), (0, .ref (ad 0)), (1, vI x1), (2, vI x2), (3, vI x3), (4, vI x4)]) dX12_toAsk_121 (by decide) rfl ?_
              refine x_aload_n C.1 dX12_toAsk_123 4 rfl ?_
              refine x_getA C (N := 33) (i := 0) (by decide) rfl vc_X12 wx_X12 35 (by decide) wf_X12_68 (a := 20) rfl dX12_toAsk_124 ?_
              refine x_iload C.1 dX12_toAsk_127 2 rfl ?_
              obtain ⟨z2247, ez2247, bz2247⟩ := hI2240.rd 20 z1438.toNat (x := 0) (y := 7) rfl
              replace hF := hF.to (rdb_e (z := z2247) ez2247)
              replace hF := hF.fc bz2247
              refine x_iald C (N := 33) (i := 20) (q := z1438) (by decide) rfl (by omega) (by decide) dX12_toAsk_129 (a := z2247) ez2247 ?_
              refine x_istore C.1 (lv' := [(5, vI z2247), (6, vJ z2240), (9, vJ z2240), (8, vI z1438), (0, .ref (ad 0)), (1, vI x1), (2, vI x2), (3, vI x3), (4, vI x4)]) dX12_toAsk_130 (by decide) rfl ?_
              exact jn2245 (z2247, z2240) ⟨⟨by omega, by omega⟩, ⟨by omega, by omega⟩, hF⟩
            · replace hF := hF.to (if_neg hc2246)
              rw [lcI_gt] at hc2246
              refine x_goto C.1 (tgt := 132) dX12_toAsk_116 (by decide) ?_
              refine x_lv [(5, vI z1440), (6, vJ z1439), (9, vJ z2240), (8, vI z1438), (0, .ref (ad 0)), (1, vI x1), (2, vI x2), (3, vI x3), (4, vI x4)] [3, 2, 0, 1, 4, 5, 6, 7, 8] rfl ?_
              exact jn2245 (z1440, z1439) ⟨⟨by omega, by omega⟩, ⟨by omega, by omega⟩, hF⟩
        · replace hF := hF.to (if_neg hc2239)
          refine x_aload_n C.1 dX12_toAsk_54 4 rfl ?_
          refine x_getA C (N := 33) (i := 0) (by decide) rfl vc_X12 wx_X12 36 (by decide) wf_X12_71 (a := 21) rfl dX12_toAsk_55 ?_
          refine x_iload C.1 dX12_toAsk_58 0 rfl ?_
          refine x_iload C.1 dX12_toAsk_60 0 rfl ?_
          refine x_iload C.1 dX12_toAsk_62 1 rfl ?_
          obtain ⟨jf2254, hjf2254, hF⟩ := jn_ex hF
          refine x_join (I := fun z2253 : Int => (0 ≤ z2253 ∧ z2253 ≤ 2147483647) ∧ Imp (jf2254 z2253) (f_m_toAsk x1 x2 x3 x4 V J Rr)) (wsf := fun z2253 : Int => MW cy ad V2187 J1441 R1441) (lvf := fun z2253 : Int => [(9, vI z2186), (8, vI z1438), (6, vJ z1439), (5, vI z1440), (0, .ref (ad 0)), (1, vI x1), (2, vI x2), (3, vI x3), (4, vI x4)]) (stf := fun z2253 : Int => [vI z2253, vI z2186, .ref (ad 21)]) 93 (fun z2253 hI2254x => ?_) (fun jn2254 => ?_)
          · obtain ⟨bz2253, hF⟩ := hI2254x
            try dsimp only
            replace hF := hF.to (jn_s1 hjf2254)
            refine x_iast C (N := 33) (i := 21) (q := z2186) (a := z2253) (by decide) rfl (by omega) (by decide) dX12_toAsk_93 ?_
            refine x_gV ?_
            intro V2255 hV2255
            have hI2255 : MI G V2255 := hI2187.up hV2255 rfl (by omega) rfl (Or.inl (by decide))
            have hB2255 := hB2187.up hV2255 (by rw [mkey_r (by decide)]; rfl)
            replace hF := hF.to (rdb_e (z := V2255) hV2255.symm)
            refine x_iinc C.1 (v := z2186 + 1) (lv' := [(9, vI (z2186 + 1)), (8, vI z1438), (6, vJ z1439), (5, vI z1440), (0, .ref (ad 0)), (1, vI x1), (2, vI x2), (3, vI x3), (4, vI x4)]) (by omega) dX12_toAsk_94 0 rfl (by decide) rfl ?_
            refine x_goto C.1 (tgt := 48) dX12_toAsk_97 (by decide) ?_
            have hmu2187 : (4 - (z2186 + 1)).toNat < (4 - z2186).toNat := (by omega)
            exact ih2187 (z2186 + 1, V2255) ⟨⟨by omega, by omega⟩, hI2255, hB2255, ⟨nf2187, Nat.lt_of_lt_of_le hmu2187 (Nat.le_of_lt_succ hn2187), hF⟩⟩ hmu2187
          · refine x_icmp_ne C.1 (tgt := 72) dX12_toAsk_64 (by decide) (by omega) (by omega) (fun hc2256 => ?_) (fun hc2256 => ?_)
            · replace hF := hF.to (if_pos hc2256)
              refine x_iconst C.1 (n := 0) dX12_toAsk_72 ?_
              refine x_aload_n C.1 dX12_toAsk_73 4 rfl ?_
              refine x_getA C (N := 33) (i := 0) (by decide) rfl vc_X12 wx_X12 0 (by decide) wf_X12_7 (a := 1) rfl dX12_toAsk_74 ?_
              refine x_bipush C.1 (n := 52) dX12_toAsk_77 ?_
              refine x_aload_n C.1 dX12_toAsk_79 4 rfl ?_
              refine x_getA C (N := 33) (i := 0) (by decide) rfl vc_X12 wx_X12 35 (by decide) wf_X12_68 (a := 20) rfl dX12_toAsk_80 ?_
              refine x_iload C.1 dX12_toAsk_83 0 rfl ?_
              obtain ⟨z2257, ez2257, bz2257⟩ := hI2187.rd 20 z2186.toNat (x := 0) (y := 7) rfl
              replace hF := hF.to (rdb_e (z := z2257) ez2257)
              replace hF := hF.fc bz2257
              refine x_iald C (N := 33) (i := 20) (q := z2186) (by decide) rfl (by omega) (by decide) dX12_toAsk_85 (a := z2257) ez2257 ?_
              refine x_iadd C.1 (v := z2257 + 52) (by omega) dX12_toAsk_86 ?_
              obtain ⟨z2258, ez2258, bz2258⟩ := hI2187.rd 1 ((z2257 + 52).toNat) (x := -2147483648) (y := 2147483647) (rgN_60 (Or.inl rfl) (by omega))
              replace hF := hF.to (rdb_e (z := z2258) ez2258)
              refine x_iald C (N := 33) (i := 1) (q := z2257 + 52) (by decide) rfl (by omega) (by decide) dX12_toAsk_87 (a := z2258) ez2258 ?_
              refine x_iconst C.1 (n := 2) dX12_toAsk_88 ?_
              refine x_isub C.1 (v := z2258 - 2) (by omega) dX12_toAsk_89 ?_
              refine x_wrapg ?_
              intro z2259 bz2259 ew2259
              replace hF := hF.to (rdb_e (z := z2259) ew2259.symm)
              refine x_callSi C (As := [vI 0, vI z2259]) (rest := [vI z2186, .ref (ad 21)]) (m_max l D cy 0 ⟨by decide, by decide⟩ z2259 ⟨by omega, by omega⟩) (l1 := []) (l2 := _) rfl (w2 := fun _ => _) (fun _ => rfl) rfl wm_yX12_max wn_X12 wl_X12_272 wi_yX12_max hd_yX12_max rfl ⟨Nat.le_of_ble_eq_true rfl, Nat.le_of_ble_eq_true rfl⟩ (Nat.le_of_ble_eq_true rfl) ⟨Nat.le_of_ble_eq_true rfl, Nat.le_of_ble_eq_true rfl⟩ dX12_toAsk_90 (fun z2260 u2260 bz2260 h2260 => ?_)
              obtain ⟨hx2260_0, hFc2260⟩ := h2260
              replace hF := calR_i hF hFc2260
              have bm2261 : 0 ≤ z2260 ∧ z2260 ≤ 2147483647 := by omega
              skip
              exact jn2254 z2260 ⟨⟨by omega, by omega⟩, hF⟩
            · replace hF := hF.to (if_neg (fun hh => hh hc2256))
              refine x_bipush C.1 (n := 10) dX12_toAsk_67 ?_
              refine x_goto C.1 (tgt := 93) dX12_toAsk_69 (by decide) ?_
              exact jn2254 10 ⟨⟨by decide, by decide⟩, hF⟩
    · replace hF := hF.to (if_neg (fun hh => hh hc5))
      refine x_ldc2 C.1 (n := -1) wq_X12_345 dX12_toAsk_20 ?_
      exact x_lret (S := xS) (post := (fun a (u : xS) => MS G u ∧ FBm 65282031152678148623040512 V u.1 ∧ (f_m_toAsk x1 x2 x3 x4 V J Rr) (a, u))) (w1 := (fun u : xS => MW cy ad u.1 u.2.1 u.2.2)) (a := (-1)) C hr rfl dX12_toAsk_23 (by decide) (V1, J, Rr) rfl ⟨⟨hI1, hJ, hR⟩, hB1, hF _ rfl⟩
theorem dX12_few_0 : decode cX12_few 0 = .ok (.aload_n 0, 1) := by decide +kernel
theorem dX12_few_1 : decode cX12_few 1 = .ok (.iload_n 1, 1) := by decide +kernel
theorem dX12_few_2 : decode cX12_few 2 = .ok (.iload_n 2, 1) := by decide +kernel
theorem dX12_few_3 : decode cX12_few 3 = .ok (.iload_n 3, 1) := by decide +kernel
theorem dX12_few_4 : decode cX12_few 4 = .ok (.invokevirtual 342, 3) := by decide +kernel
theorem dX12_few_7 : decode cX12_few 7 = .ok (.ifCond .eq 14, 3) := by decide +kernel
theorem dX12_few_10 : decode cX12_few 10 = .ok (.iload 4, 2) := by decide +kernel
theorem dX12_few_12 : decode cX12_few 12 = .ok (.iconst 0, 1) := by decide +kernel
theorem dX12_few_13 : decode cX12_few 13 = .ok (.bipush 10, 2) := by decide +kernel
theorem dX12_few_15 : decode cX12_few 15 = .ok (.invokestatic 126, 3) := by decide +kernel
theorem dX12_few_18 : decode cX12_few 18 = .ok (.ifCond .ne 5, 3) := by decide +kernel
theorem dX12_few_21 : decode cX12_few 21 = .ok (.iconst (-1), 1) := by decide +kernel
theorem dX12_few_22 : decode cX12_few 22 = .ok (.ireturn, 1) := by decide +kernel
theorem dX12_few_23 : decode cX12_few 23 = .ok (.iconst 0, 1) := by decide +kernel
theorem dX12_few_24 : decode cX12_few 24 = .ok (.istore 5, 2) := by decide +kernel
theorem dX12_few_26 : decode cX12_few 26 = .ok (.iload 5, 2) := by decide +kernel
theorem dX12_few_28 : decode cX12_few 28 = .ok (.iload_n 3, 1) := by decide +kernel
theorem dX12_few_29 : decode cX12_few 29 = .ok (.if_icmp .gt 42, 3) := by decide +kernel
theorem dX12_few_32 : decode cX12_few 32 = .ok (.iload_n 2, 1) := by decide +kernel
theorem dX12_few_33 : decode cX12_few 33 = .ok (.iload 5, 2) := by decide +kernel
theorem dX12_few_35 : decode cX12_few 35 = .ok (.iconst 1, 1) := by decide +kernel
theorem dX12_few_36 : decode cX12_few 36 = .ok (.iadd, 1) := by decide +kernel
theorem dX12_few_37 : decode cX12_few 37 = .ok (.imul, 1) := by decide +kernel
theorem dX12_few_38 : decode cX12_few 38 = .ok (.iconst 1, 1) := by decide +kernel
theorem dX12_few_39 : decode cX12_few 39 = .ok (.isub, 1) := by decide +kernel
theorem dX12_few_40 : decode cX12_few 40 = .ok (.invokestatic 328, 3) := by decide +kernel
theorem dX12_few_43 : decode cX12_few 43 = .ok (.lstore 6, 2) := by decide +kernel
theorem dX12_few_45 : decode cX12_few 45 = .ok (.aload_n 0, 1) := by decide +kernel
theorem dX12_few_46 : decode cX12_few 46 = .ok (.iload_n 2, 1) := by decide +kernel
theorem dX12_few_47 : decode cX12_few 47 = .ok (.iload 5, 2) := by decide +kernel
theorem dX12_few_49 : decode cX12_few 49 = .ok (.invokevirtual 347, 3) := by decide +kernel
theorem dX12_few_52 : decode cX12_few 52 = .ok (.iload 4, 2) := by decide +kernel
theorem dX12_few_54 : decode cX12_few 54 = .ok (.i2l, 1) := by decide +kernel
theorem dX12_few_55 : decode cX12_few 55 = .ok (.lload 6, 2) := by decide +kernel
theorem dX12_few_57 : decode cX12_few 57 = .ok (.lmul, 1) := by decide +kernel
theorem dX12_few_58 : decode cX12_few 58 = .ok (.lcmp, 1) := by decide +kernel
theorem dX12_few_59 : decode cX12_few 59 = .ok (.ifCond .lt 6, 3) := by decide +kernel
theorem dX12_few_62 : decode cX12_few 62 = .ok (.iload 5, 2) := by decide +kernel
theorem dX12_few_64 : decode cX12_few 64 = .ok (.ireturn, 1) := by decide +kernel
theorem dX12_few_65 : decode cX12_few 65 = .ok (.iinc 5 1, 3) := by decide +kernel
theorem dX12_few_68 : decode cX12_few 68 = .ok (.goto (-42), 3) := by decide +kernel
theorem dX12_few_71 : decode cX12_few 71 = .ok (.bipush (-2), 2) := by decide +kernel
theorem dX12_few_73 : decode cX12_few 73 = .ok (.ireturn, 1) := by decide +kernel
set_option maxRecDepth 100000 in
def f_m_few (x1 : Int) (x2 : Int) (x3 : Int) (x4 : Int) (V : Nat → Nat → Int) (J : Nat → Nat → Int) (Rr : Nat → Nat → Nat) : (Int × xS) → Prop :=
  calVM 58028439341502226155700224 V (f_m_canGo x1 x2 x3 V J Rr) fun z1 V1 => fct (0 ≤ z1 ∧ z1 ≤ 1) <| (if z1 = 0 then rtn ((-1), (V1, J, Rr)) else calR (f_m_in x4 0 10) fun z4 => fct (0 ≤ z4 ∧ z4 ≤ 1) <| (if ¬ z4 = 0 then lop4 (6) (fun rc52 (z51 : Int) (V52 : Nat → Nat → Int) (J52 : Nat → Nat → Int) (R52 : Nat → Nat → Nat) => (if x3 < z51 then rtn ((-2), (V52, J52, R52)) else rdb (x2 * (z51 + 1)) fun z61 => fct (0 ≤ z61 ∧ z61 ≤ 36) <| calR (f_m_tens (z61 - 1)) fun z62 => fct (1 ≤ z62 ∧ z62 ≤ 1000000000000000000) <| calSM 7253591811175922467340288 V52 (f_m_goesThrough x2 z51 V52 J52 R52) fun z63 V63 J63 R63 => rdb (wrJ (x4 * z62)) fun z64 => (if (lcI z63 z64) < 0 then rc52 (z51 + 1) V63 J63 R63 else rtn (z51, (V63, J63, R63))))) 0 V1 J Rr else rtn ((-1), (V1, J, Rr))))
set_option maxHeartbeats 8000000 in
set_option maxRecDepth 100000 in
theorem m_few (l : Launch) (D : va_G) (cy : Nat → ClassId) (ad : Nat → Nat) (G : Nat → Nat → Int) (V J : Nat → Nat → Int) (Rr : Nat → Nat → Nat) (hI : MI G V) (hJ : VJ J) (hR : MR Rr) (x1 : Int) (bx1 : -2147483648 ≤ x1 ∧ x1 ≤ 2147483647) (x2 : Int) (bx2 : -2147483648 ≤ x2 ∧ x2 ≤ 2147483647) (x3 : Int) (bx3 : -2147483648 ≤ x3 ∧ x3 ≤ 2147483647) (x4 : Int) (bx4 : -2147483648 ≤ x4 ∧ x4 ≤ 2147483647) (hW : WP G) : xMi l D (xTY cy) yX12_few cX12_few 8 (some .int) 7 160 0 0 [.ref (ad 0), vI x1, vI x2, vI x3, vI x4] (MW cy ad V J Rr) (fun u : xS => MW cy ad u.1 u.2.1 u.2.2) (fun a (u : xS) => MS G u ∧ FBm 65282031152678148623040512 V u.1 ∧ (f_m_few x1 x2 x3 x4 V J Rr) (a, u)) := by
  refine xMi.mk (lv0 := [(0, .ref (ad 0)), (1, vI x1), (2, vI x2), (3, vI x3), (4, vI x4)]) (by decide) rfl (Nat.le_of_ble_eq_true rfl) (fun p e s m below meth c A C hr hnm hAe => ?_)
  have C : xC2 p s m _ meth c D A s.heap 8 cX12_few RX12 (xTY cy) := C
  have hB : FBm 65282031152678148623040512 V V := FBm.rf _ _
  have hF := Imp.of_eq (f_m_few.eq_def x1 x2 x3 x4 V J Rr)
  refine x_aload_n C.1 dX12_few_0 0 rfl ?_
  refine x_iload_n C.1 dX12_few_1 1 rfl ?_
  refine x_iload_n C.1 dX12_few_2 2 rfl ?_
  refine x_iload_n C.1 dX12_few_3 3 rfl ?_
  refine x_callVi C (As := [vI x1, vI x2, vI x3]) (rest := []) 0 (xw_at (N := 33) (i := 0) (by decide) rfl) vc_X12 (m_canGo l D cy ad G V J Rr hI hJ hR x1 ⟨by omega, by omega⟩ x2 ⟨by omega, by omega⟩ x3 ⟨by omega, by omega⟩) (l1 := []) (l2 := []) (List.append_nil _).symm (w2 := fun u : Nat → Nat → Int => MW cy ad u J Rr) (fun _ => List.append_nil _) rfl wm_yX12_canGo wn_X12 wl_X12_342 wi_yX12_canGo we_yX12_canGo hd_yX12_canGo rfl ⟨Nat.le_of_ble_eq_true rfl, Nat.le_of_ble_eq_true rfl⟩ (Nat.le_of_ble_eq_true rfl) ⟨Nat.le_of_ble_eq_true rfl, Nat.le_of_ble_eq_true rfl⟩ dX12_few_4 (fun z1 V1 bz1 h1 => ?_)
  obtain ⟨hI1, bq1, hx1_0, hBc1, hFc1⟩ := h1
  replace hF := calVM_i hF hFc1 hBc1
  replace hF := hF.fc bq1
  have hB1 := hB.tr hBc1 (m := 58028439341502226155700224) rfl
  refine x_if_eq C.1 (tgt := 21) dX12_few_7 (by decide) (by omega) (fun hc2 => ?_) (fun hc2 => ?_)
  · replace hF := hF.to (if_pos hc2)
    refine x_iconst C.1 (n := -1) dX12_few_21 ?_
    exact x_iret (S := xS) (post := (fun a (u : xS) => MS G u ∧ FBm 65282031152678148623040512 V u.1 ∧ (f_m_few x1 x2 x3 x4 V J Rr) (a, u))) (w1 := (fun u : xS => MW cy ad u.1 u.2.1 u.2.2)) (a := (-1)) C hr rfl dX12_few_22 (by decide) (V1, J, Rr) rfl ⟨⟨hI1, hJ, hR⟩, hB1, hF _ rfl⟩
  · replace hF := hF.to (if_neg hc2)
    have hon3 := Sp.on hx1_0 (by omega)
    refine x_iload C.1 dX12_few_10 4 rfl ?_
    refine x_iconst C.1 (n := 0) dX12_few_12 ?_
    refine x_bipush C.1 (n := 10) dX12_few_13 ?_
    refine x_callSi C (As := [vI x4, vI 0, vI 10]) (rest := []) (m_in l D cy x4 ⟨by omega, by omega⟩ 0 ⟨by decide, by decide⟩ 10 ⟨by decide, by decide⟩) (l1 := []) (l2 := _) rfl (w2 := fun _ => _) (fun _ => rfl) rfl wm_yX12_in wn_X12 wl_X12_126 wi_yX12_in hd_yX12_in rfl ⟨Nat.le_of_ble_eq_true rfl, Nat.le_of_ble_eq_true rfl⟩ (Nat.le_of_ble_eq_true rfl) ⟨Nat.le_of_ble_eq_true rfl, Nat.le_of_ble_eq_true rfl⟩ dX12_few_15 (fun z4 u4 bz4 h4 => ?_)
    obtain ⟨bq4, hx4_0, hFc4⟩ := h4
    replace hF := calR_i hF hFc4
    replace hF := hF.fc bq4
    refine x_if_ne C.1 (tgt := 23) dX12_few_18 (by decide) (by omega) (fun hc5 => ?_) (fun hc5 => ?_)
    · replace hF := hF.to (if_pos hc5)
      have hon6 := Sq.on hx4_0 (by omega)
      refine x_iconst C.1 (n := 0) dX12_few_23 ?_
      refine x_istore C.1 (lv' := [(5, vI 0), (0, .ref (ad 0)), (1, vI x1), (2, vI x2), (3, vI x3), (4, vI x4)]) dX12_few_24 (by decide) rfl ?_
      obtain ⟨bd52, hbd52, hF⟩ := lop4_ex hF
      refine x_loop (I := fun x : Int × (Nat → Nat → Int) × (Nat → Nat → Int) × (Nat → Nat → Nat) => match x with | (z51, V52, J52, R52) => (0 ≤ z51 ∧ z51 ≤ 4) ∧ MI G V52 ∧ FBm 65282031152678148623040512 V V52 ∧ VJ J52 ∧ MR R52 ∧ (∃ nf : Nat, (5 - z51).toNat < nf ∧ Imp (lop4 nf bd52 z51 V52 J52 R52) (f_m_few x1 x2 x3 x4 V J Rr))) (μ := fun x : Int × (Nat → Nat → Int) × (Nat → Nat → Int) × (Nat → Nat → Nat) => match x with | (z51, V52, J52, R52) => (5 - z51).toNat) (wsf := fun x : Int × (Nat → Nat → Int) × (Nat → Nat → Int) × (Nat → Nat → Nat) => match x with | (z51, V52, J52, R52) => MW cy ad V52 J52 R52) (lvf := fun x : Int × (Nat → Nat → Int) × (Nat → Nat → Int) × (Nat → Nat → Nat) => match x with | (z51, V52, J52, R52) => [(5, vI z51), (0, .ref (ad 0)), (1, vI x1), (2, vI x2), (3, vI x3), (4, vI x4)]) (fun x hI52x ih52 => ?_) (0, V1, J, Rr) ⟨⟨by decide, by decide⟩, hI1, hB1, hJ, hR, ⟨_, (by omega), hF⟩⟩ rfl rfl
      obtain ⟨z51, V52, J52, R52⟩ := x
      obtain ⟨bz51, hI52, hB52, hJ52, hR52, nf52, hn52, hF⟩ := hI52x
      try dsimp only
      obtain ⟨nf52, rfl⟩ : ∃ mm, nf52 = mm + 1 := ⟨nf52 - 1, (Nat.succ_pred_eq_of_pos (Nat.lt_of_le_of_lt (Nat.zero_le _) hn52)).symm⟩
      replace hF := hF.to (lop4_s hbd52)
      refine x_iload C.1 dX12_few_26 0 rfl ?_
      refine x_iload_n C.1 dX12_few_28 4 rfl ?_
      refine x_icmp_gt C.1 (tgt := 71) dX12_few_29 (by decide) (by omega) (by omega) (fun hc60 => ?_) (fun hc60 => ?_)
      · replace hF := hF.to (if_pos hc60)
        refine x_bipush C.1 (n := -2) dX12_few_71 ?_
        exact x_iret (S := xS) (post := (fun a (u : xS) => MS G u ∧ FBm 65282031152678148623040512 V u.1 ∧ (f_m_few x1 x2 x3 x4 V J Rr) (a, u))) (w1 := (fun u : xS => MW cy ad u.1 u.2.1 u.2.2)) (a := (-2)) C hr rfl dX12_few_73 (by decide) (V52, J52, R52) rfl ⟨⟨hI52, hJ52, hR52⟩, hB52, hF _ rfl⟩
      · replace hF := hF.to (if_neg hc60)
        refine x_iload_n C.1 dX12_few_32 3 rfl ?_
        refine x_iload C.1 dX12_few_33 0 rfl ?_
        refine x_iconst C.1 (n := 1) dX12_few_35 ?_
        refine x_iadd C.1 (v := z51 + 1) (by omega) dX12_few_36 ?_
        obtain ⟨z61, hz61, bz61⟩ := mulB (x := x2) (y := z51 + 1) (A := 9) (B := 4) (by omega) (by omega)
        replace hF := hF.to (rdb_e (z := z61) hz61)
        replace hF := hF.fc bz61
        refine x_imul C.1 (v := z61) hz61 dX12_few_37 ?_
        refine x_iconst C.1 (n := 1) dX12_few_38 ?_
        refine x_isub C.1 (v := z61 - 1) (by omega) dX12_few_39 ?_
        have hm := mul18 (x := x2) (y := z51) (z := x3) (by omega) (by omega) (by omega)
        refine x_callSl C (As := [vI (z61 - 1)]) (rest := []) (m_tens l D cy (z61 - 1) ⟨by omega, by omega⟩) (l1 := []) (l2 := _) rfl (w2 := fun _ => _) (fun _ => rfl) rfl wm_yX12_tens wn_X12 wl_X12_328 wi_yX12_tens hd_yX12_tens rfl ⟨Nat.le_of_ble_eq_true rfl, Nat.le_of_ble_eq_true rfl⟩ (Nat.le_of_ble_eq_true rfl) ⟨Nat.le_of_ble_eq_true rfl, Nat.le_of_ble_eq_true rfl⟩ dX12_few_40 (fun z62 u62 bz62 h62 => ?_)
        obtain ⟨bq62, hFc62⟩ := h62
        replace hF := calR_i hF hFc62
        replace hF := hF.fc bq62
        refine x_lstore C.1 (lv' := [(6, vJ z62), (5, vI z51), (0, .ref (ad 0)), (1, vI x1), (2, vI x2), (3, vI x3), (4, vI x4)]) dX12_few_43 (by decide) rfl ?_
        refine x_aload_n C.1 dX12_few_45 2 rfl ?_
        refine x_iload_n C.1 dX12_few_46 4 rfl ?_
        refine x_iload C.1 dX12_few_47 1 rfl ?_
        refine x_callVl C (As := [vI x2, vI z51]) (rest := []) 0 (xw_at (N := 33) (i := 0) (by decide) rfl) vc_X12 (m_goesThrough l D cy ad G V52 J52 R52 hI52 hJ52 hR52 x2 ⟨by omega, by omega⟩ z51 ⟨by omega, by omega⟩ hW (by omega)) (l1 := []) (l2 := []) (List.append_nil _).symm (w2 := fun u : xS => MW cy ad u.1 u.2.1 u.2.2) (fun _ => List.append_nil _) rfl wm_yX12_goesThrough wn_X12 wl_X12_347 wi_yX12_goesThrough we_yX12_goesThrough hd_yX12_goesThrough rfl ⟨Nat.le_of_ble_eq_true rfl, Nat.le_of_ble_eq_true rfl⟩ (Nat.le_of_ble_eq_true rfl) ⟨Nat.le_of_ble_eq_true rfl, Nat.le_of_ble_eq_true rfl⟩ dX12_few_49 (fun z63 u63 bz63 h63 => ?_)
        obtain ⟨V63, J63, R63⟩ := u63
        obtain ⟨hS63, hBc63, hFc63⟩ := h63
        replace hF := calSM_i hF hFc63 hBc63
        have hB63 := hB52.tr hBc63 (m := 7253591811175922467340288) rfl
        obtain ⟨hI63, hJ63, hR63⟩ := hS63
        dsimp only at hI63 hJ63 hR63 ⊢
        refine x_iload C.1 dX12_few_52 6 rfl ?_
        refine x_i2l C.1 dX12_few_54 (by omega) ?_
        refine x_lload C.1 dX12_few_55 0 rfl ?_
        refine x_lmul C.1 rfl dX12_few_57 ?_
        refine x_wrapJg ?_
        intro z64 bz64 ew64
        replace hF := hF.to (rdb_e (z := z64) ew64.symm)
        refine x_lcmp C.1 rfl dX12_few_58 (by omega) (by omega) ?_
        have bz65 := lcI_r2 z63 z64
        refine x_if_lt C.1 (tgt := 65) dX12_few_59 (by decide) (by omega) (fun hc66 => ?_) (fun hc66 => ?_)
        · replace hF := hF.to (if_pos hc66)
          rw [lcI_lt] at hc66
          refine x_iinc C.1 (v := z51 + 1) (lv' := [(5, vI (z51 + 1)), (6, vJ z62), (0, .ref (ad 0)), (1, vI x1), (2, vI x2), (3, vI x3), (4, vI x4)]) (by omega) dX12_few_65 1 rfl (by decide) rfl ?_
          refine x_goto C.1 (tgt := 26) dX12_few_68 (by decide) ?_
          refine x_lv [(5, vI (z51 + 1)), (0, .ref (ad 0)), (1, vI x1), (2, vI x2), (3, vI x3), (4, vI x4)] [0, 2, 3, 4, 5, 6] rfl ?_
          have hmu52 : (5 - (z51 + 1)).toNat < (5 - z51).toNat := (by omega)
          exact ih52 (z51 + 1, V63, J63, R63) ⟨⟨by omega, by omega⟩, hI63, hB63, hJ63, hR63, ⟨nf52, Nat.lt_of_lt_of_le hmu52 (Nat.le_of_lt_succ hn52), hF⟩⟩ hmu52
        · replace hF := hF.to (if_neg hc66)
          rw [lcI_lt] at hc66
          refine x_iload C.1 dX12_few_62 1 rfl ?_
          exact x_iret (S := xS) (post := (fun a (u : xS) => MS G u ∧ FBm 65282031152678148623040512 V u.1 ∧ (f_m_few x1 x2 x3 x4 V J Rr) (a, u))) (w1 := (fun u : xS => MW cy ad u.1 u.2.1 u.2.2)) (a := z51) C hr rfl dX12_few_64 (by omega) (V63, J63, R63) rfl ⟨⟨hI63, hJ63, hR63⟩, hB63, hF _ rfl⟩
    · replace hF := hF.to (if_neg (fun hh => hh hc5))
      refine x_iconst C.1 (n := -1) dX12_few_21 ?_
      exact x_iret (S := xS) (post := (fun a (u : xS) => MS G u ∧ FBm 65282031152678148623040512 V u.1 ∧ (f_m_few x1 x2 x3 x4 V J Rr) (a, u))) (w1 := (fun u : xS => MW cy ad u.1 u.2.1 u.2.2)) (a := (-1)) C hr rfl dX12_few_22 (by decide) (V1, J, Rr) rfl ⟨⟨hI1, hJ, hR⟩, hB1, hF _ rfl⟩
theorem dX12_pot_0 : decode cX12_pot 0 = .ok (.aload_n 0, 1) := by decide +kernel
theorem dX12_pot_1 : decode cX12_pot 1 = .ok (.iload_n 1, 1) := by decide +kernel
theorem dX12_pot_2 : decode cX12_pot 2 = .ok (.iload_n 2, 1) := by decide +kernel
theorem dX12_pot_3 : decode cX12_pot 3 = .ok (.iload_n 3, 1) := by decide +kernel
theorem dX12_pot_4 : decode cX12_pot 4 = .ok (.invokevirtual 342, 3) := by decide +kernel
theorem dX12_pot_7 : decode cX12_pot 7 = .ok (.ifCond .eq 14, 3) := by decide +kernel
theorem dX12_pot_10 : decode cX12_pot 10 = .ok (.iload 4, 2) := by decide +kernel
theorem dX12_pot_12 : decode cX12_pot 12 = .ok (.iconst 4, 1) := by decide +kernel
theorem dX12_pot_13 : decode cX12_pot 13 = .ok (.bipush 24, 2) := by decide +kernel
theorem dX12_pot_15 : decode cX12_pot 15 = .ok (.invokestatic 126, 3) := by decide +kernel
theorem dX12_pot_18 : decode cX12_pot 18 = .ok (.ifCond .ne 7, 3) := by decide +kernel
theorem dX12_pot_21 : decode cX12_pot 21 = .ok (.ldc2_w 351, 3) := by decide +kernel
theorem dX12_pot_24 : decode cX12_pot 24 = .ok (.lreturn, 1) := by decide +kernel
theorem dX12_pot_25 : decode cX12_pot 25 = .ok (.aload_n 0, 1) := by decide +kernel
theorem dX12_pot_26 : decode cX12_pot 26 = .ok (.iload_n 2, 1) := by decide +kernel
theorem dX12_pot_27 : decode cX12_pot 27 = .ok (.iload_n 3, 1) := by decide +kernel
theorem dX12_pot_28 : decode cX12_pot 28 = .ok (.invokevirtual 347, 3) := by decide +kernel
theorem dX12_pot_31 : decode cX12_pot 31 = .ok (.lstore 5, 2) := by decide +kernel
theorem dX12_pot_33 : decode cX12_pot 33 = .ok (.aload_n 0, 1) := by decide +kernel
theorem dX12_pot_34 : decode cX12_pot 34 = .ok (.getfield 7, 3) := by decide +kernel
theorem dX12_pot_37 : decode cX12_pot 37 = .ok (.iconst 0, 1) := by decide +kernel
theorem dX12_pot_38 : decode cX12_pot 38 = .ok (.iload_n 1, 1) := by decide +kernel
theorem dX12_pot_39 : decode cX12_pot 39 = .ok (.iadd, 1) := by decide +kernel
theorem dX12_pot_40 : decode cX12_pot 40 = .ok (.iaload, 1) := by decide +kernel
theorem dX12_pot_41 : decode cX12_pot 41 = .ok (.istore 7, 2) := by decide +kernel
theorem dX12_pot_43 : decode cX12_pot 43 = .ok (.aload_n 0, 1) := by decide +kernel
theorem dX12_pot_44 : decode cX12_pot 44 = .ok (.getfield 7, 3) := by decide +kernel
theorem dX12_pot_47 : decode cX12_pot 47 = .ok (.iconst 4, 1) := by decide +kernel
theorem dX12_pot_48 : decode cX12_pot 48 = .ok (.iload_n 1, 1) := by decide +kernel
theorem dX12_pot_49 : decode cX12_pot 49 = .ok (.iadd, 1) := by decide +kernel
theorem dX12_pot_50 : decode cX12_pot 50 = .ok (.iaload, 1) := by decide +kernel
theorem dX12_pot_51 : decode cX12_pot 51 = .ok (.istore 8, 2) := by decide +kernel
theorem dX12_pot_53 : decode cX12_pot 53 = .ok (.aload_n 0, 1) := by decide +kernel
theorem dX12_pot_54 : decode cX12_pot 54 = .ok (.getfield 7, 3) := by decide +kernel
theorem dX12_pot_57 : decode cX12_pot 57 = .ok (.iconst 0, 1) := by decide +kernel
theorem dX12_pot_58 : decode cX12_pot 58 = .ok (.iload_n 1, 1) := by decide +kernel
theorem dX12_pot_59 : decode cX12_pot 59 = .ok (.iadd, 1) := by decide +kernel
theorem dX12_pot_60 : decode cX12_pot 60 = .ok (.iload 4, 2) := by decide +kernel
theorem dX12_pot_62 : decode cX12_pot 62 = .ok (.iastore, 1) := by decide +kernel
theorem dX12_pot_63 : decode cX12_pot 63 = .ok (.aload_n 0, 1) := by decide +kernel
theorem dX12_pot_64 : decode cX12_pot 64 = .ok (.getfield 7, 3) := by decide +kernel
theorem dX12_pot_67 : decode cX12_pot 67 = .ok (.iconst 4, 1) := by decide +kernel
theorem dX12_pot_68 : decode cX12_pot 68 = .ok (.iload_n 1, 1) := by decide +kernel
theorem dX12_pot_69 : decode cX12_pot 69 = .ok (.iadd, 1) := by decide +kernel
theorem dX12_pot_70 : decode cX12_pot 70 = .ok (.iload 4, 2) := by decide +kernel
theorem dX12_pot_72 : decode cX12_pot 72 = .ok (.iload 8, 2) := by decide +kernel
theorem dX12_pot_74 : decode cX12_pot 74 = .ok (.invokestatic 133, 3) := by decide +kernel
theorem dX12_pot_77 : decode cX12_pot 77 = .ok (.iastore, 1) := by decide +kernel
theorem dX12_pot_78 : decode cX12_pot 78 = .ok (.aload_n 0, 1) := by decide +kernel
theorem dX12_pot_79 : decode cX12_pot 79 = .ok (.aload_n 0, 1) := by decide +kernel
theorem dX12_pot_80 : decode cX12_pot 80 = .ok (.getfield 7, 3) := by decide +kernel
theorem dX12_pot_83 : decode cX12_pot 83 = .ok (.iconst 4, 1) := by decide +kernel
theorem dX12_pot_84 : decode cX12_pot 84 = .ok (.iload_n 1, 1) := by decide +kernel
theorem dX12_pot_85 : decode cX12_pot 85 = .ok (.iadd, 1) := by decide +kernel
theorem dX12_pot_86 : decode cX12_pot 86 = .ok (.iaload, 1) := by decide +kernel
theorem dX12_pot_87 : decode cX12_pot 87 = .ok (.putfield 301, 3) := by decide +kernel
theorem dX12_pot_90 : decode cX12_pot 90 = .ok (.aload_n 0, 1) := by decide +kernel
theorem dX12_pot_91 : decode cX12_pot 91 = .ok (.iload_n 2, 1) := by decide +kernel
theorem dX12_pot_92 : decode cX12_pot 92 = .ok (.iload_n 3, 1) := by decide +kernel
theorem dX12_pot_93 : decode cX12_pot 93 = .ok (.invokevirtual 347, 3) := by decide +kernel
theorem dX12_pot_96 : decode cX12_pot 96 = .ok (.lstore 9, 2) := by decide +kernel
theorem dX12_pot_98 : decode cX12_pot 98 = .ok (.aload_n 0, 1) := by decide +kernel
theorem dX12_pot_99 : decode cX12_pot 99 = .ok (.getfield 7, 3) := by decide +kernel
theorem dX12_pot_102 : decode cX12_pot 102 = .ok (.iconst 0, 1) := by decide +kernel
theorem dX12_pot_103 : decode cX12_pot 103 = .ok (.iload_n 1, 1) := by decide +kernel
theorem dX12_pot_104 : decode cX12_pot 104 = .ok (.iadd, 1) := by decide +kernel
theorem dX12_pot_105 : decode cX12_pot 105 = .ok (.iload 7, 2) := by decide +kernel
theorem dX12_pot_107 : decode cX12_pot 107 = .ok (.iastore, 1) := by decide +kernel
theorem dX12_pot_108 : decode cX12_pot 108 = .ok (.aload_n 0, 1) := by decide +kernel
theorem dX12_pot_109 : decode cX12_pot 109 = .ok (.getfield 7, 3) := by decide +kernel
theorem dX12_pot_112 : decode cX12_pot 112 = .ok (.iconst 4, 1) := by decide +kernel
theorem dX12_pot_113 : decode cX12_pot 113 = .ok (.iload_n 1, 1) := by decide +kernel
theorem dX12_pot_114 : decode cX12_pot 114 = .ok (.iadd, 1) := by decide +kernel
theorem dX12_pot_115 : decode cX12_pot 115 = .ok (.iload 8, 2) := by decide +kernel
theorem dX12_pot_117 : decode cX12_pot 117 = .ok (.iastore, 1) := by decide +kernel
theorem dX12_pot_118 : decode cX12_pot 118 = .ok (.lload 9, 2) := by decide +kernel
theorem dX12_pot_120 : decode cX12_pot 120 = .ok (.lload 5, 2) := by decide +kernel
theorem dX12_pot_122 : decode cX12_pot 122 = .ok (.lsub, 1) := by decide +kernel
theorem dX12_pot_123 : decode cX12_pot 123 = .ok (.lreturn, 1) := by decide +kernel
set_option maxRecDepth 100000 in
def f_m_pot (x1 : Int) (x2 : Int) (x3 : Int) (x4 : Int) (V : Nat → Nat → Int) (J : Nat → Nat → Int) (Rr : Nat → Nat → Nat) : (Int × xS) → Prop :=
  calVM 58028439341502226155700224 V (f_m_canGo x1 x2 x3 V J Rr) fun z1 V1 => fct (0 ≤ z1 ∧ z1 ≤ 1) <| (if z1 = 0 then rtn ((-1000000000000), (V1, J, Rr)) else calR (f_m_in x4 4 24) fun z4 => fct (0 ≤ z4 ∧ z4 ≤ 1) <| (if ¬ z4 = 0 then calSM 7253591811175922467340288 V1 (f_m_goesThrough x2 x3 V1 J Rr) fun z7 V7 J7 R7 => rdb (V7 1 x1.toNat) fun z8 => fct (0 ≤ z8 ∧ z8 ≤ 24) <| rdb (V7 1 ((x1 + 4).toNat)) fun z9 => fct (0 ≤ z9 ∧ z9 ≤ 24) <| rdb (up2 V7 1 x1.toNat x4) fun V10 => calR (f_m_min x4 z9) fun z11 => rdb (up2 V10 1 ((x1 + 4).toNat) z11) fun V13 => rdb (up2 V13 0 34 z11) fun V14 => calSM 7253591811175922467340288 V14 (f_m_goesThrough x2 x3 V14 J7 R7) fun z15 V15 J15 R15 => rdb (up2 V15 1 x1.toNat z8) fun V16 => rdb (up2 V16 1 ((x1 + 4).toNat) z9) fun V17 => rdb (wrJ (z15 - z7)) fun z18 => rtn (z18, (V17, J15, R15)) else rtn ((-1000000000000), (V1, J, Rr))))
set_option maxHeartbeats 8000000 in
set_option maxRecDepth 100000 in
theorem m_pot (l : Launch) (D : va_G) (cy : Nat → ClassId) (ad : Nat → Nat) (G : Nat → Nat → Int) (V J : Nat → Nat → Int) (Rr : Nat → Nat → Nat) (hI : MI G V) (hJ : VJ J) (hR : MR Rr) (x1 : Int) (bx1 : -2147483648 ≤ x1 ∧ x1 ≤ 2147483647) (x2 : Int) (bx2 : -2147483648 ≤ x2 ∧ x2 ≤ 2147483647) (x3 : Int) (bx3 : -2147483648 ≤ x3 ∧ x3 ≤ 2147483647) (x4 : Int) (bx4 : -2147483648 ≤ x4 ∧ x4 ≤ 2147483647) (hW : WP G) : xMl l D (xTY cy) yX12_pot cX12_pot 11 (some .long) 7 160 0 0 [.ref (ad 0), vI x1, vI x2, vI x3, vI x4] (MW cy ad V J Rr) (fun u : xS => MW cy ad u.1 u.2.1 u.2.2) (fun a (u : xS) => MS G u ∧ FBm 65282031152678148623040512 V u.1 ∧ (f_m_pot x1 x2 x3 x4 V J Rr) (a, u)) := by
  refine xMl.mk (lv0 := [(0, .ref (ad 0)), (1, vI x1), (2, vI x2), (3, vI x3), (4, vI x4)]) (by decide) rfl (Nat.le_of_ble_eq_true rfl) (fun p e s m below meth c A C hr hnm hAe => ?_)
  have C : xC2 p s m _ meth c D A s.heap 11 cX12_pot RX12 (xTY cy) := C
  have hB : FBm 65282031152678148623040512 V V := FBm.rf _ _
  have hF := Imp.of_eq (f_m_pot.eq_def x1 x2 x3 x4 V J Rr)
  refine x_aload_n C.1 dX12_pot_0 0 rfl ?_
  refine x_iload_n C.1 dX12_pot_1 1 rfl ?_
  refine x_iload_n C.1 dX12_pot_2 2 rfl ?_
  refine x_iload_n C.1 dX12_pot_3 3 rfl ?_
  refine x_callVi C (As := [vI x1, vI x2, vI x3]) (rest := []) 0 (xw_at (N := 33) (i := 0) (by decide) rfl) vc_X12 (m_canGo l D cy ad G V J Rr hI hJ hR x1 ⟨by omega, by omega⟩ x2 ⟨by omega, by omega⟩ x3 ⟨by omega, by omega⟩) (l1 := []) (l2 := []) (List.append_nil _).symm (w2 := fun u : Nat → Nat → Int => MW cy ad u J Rr) (fun _ => List.append_nil _) rfl wm_yX12_canGo wn_X12 wl_X12_342 wi_yX12_canGo we_yX12_canGo hd_yX12_canGo rfl ⟨Nat.le_of_ble_eq_true rfl, Nat.le_of_ble_eq_true rfl⟩ (Nat.le_of_ble_eq_true rfl) ⟨Nat.le_of_ble_eq_true rfl, Nat.le_of_ble_eq_true rfl⟩ dX12_pot_4 (fun z1 V1 bz1 h1 => ?_)
  obtain ⟨hI1, bq1, hx1_0, hBc1, hFc1⟩ := h1
  replace hF := calVM_i hF hFc1 hBc1
  replace hF := hF.fc bq1
  have hB1 := hB.tr hBc1 (m := 58028439341502226155700224) rfl
  refine x_if_eq C.1 (tgt := 21) dX12_pot_7 (by decide) (by omega) (fun hc2 => ?_) (fun hc2 => ?_)
  · replace hF := hF.to (if_pos hc2)
    refine x_ldc2 C.1 (n := -1000000000000) wq_X12_351 dX12_pot_21 ?_
    exact x_lret (S := xS) (post := (fun a (u : xS) => MS G u ∧ FBm 65282031152678148623040512 V u.1 ∧ (f_m_pot x1 x2 x3 x4 V J Rr) (a, u))) (w1 := (fun u : xS => MW cy ad u.1 u.2.1 u.2.2)) (a := (-1000000000000)) C hr rfl dX12_pot_24 (by decide) (V1, J, Rr) rfl ⟨⟨hI1, hJ, hR⟩, hB1, hF _ rfl⟩
  · replace hF := hF.to (if_neg hc2)
    have hon3 := Sp.on hx1_0 (by omega)
    refine x_iload C.1 dX12_pot_10 4 rfl ?_
    refine x_iconst C.1 (n := 4) dX12_pot_12 ?_
    refine x_bipush C.1 (n := 24) dX12_pot_13 ?_
    refine x_callSi C (As := [vI x4, vI 4, vI 24]) (rest := []) (m_in l D cy x4 ⟨by omega, by omega⟩ 4 ⟨by decide, by decide⟩ 24 ⟨by decide, by decide⟩) (l1 := []) (l2 := _) rfl (w2 := fun _ => _) (fun _ => rfl) rfl wm_yX12_in wn_X12 wl_X12_126 wi_yX12_in hd_yX12_in rfl ⟨Nat.le_of_ble_eq_true rfl, Nat.le_of_ble_eq_true rfl⟩ (Nat.le_of_ble_eq_true rfl) ⟨Nat.le_of_ble_eq_true rfl, Nat.le_of_ble_eq_true rfl⟩ dX12_pot_15 (fun z4 u4 bz4 h4 => ?_)
    obtain ⟨bq4, hx4_0, hFc4⟩ := h4
    replace hF := calR_i hF hFc4
    replace hF := hF.fc bq4
    refine x_if_ne C.1 (tgt := 25) dX12_pot_18 (by decide) (by omega) (fun hc5 => ?_) (fun hc5 => ?_)
    · replace hF := hF.to (if_pos hc5)
      have hon6 := Sq.on hx4_0 (by omega)
      refine x_aload_n C.1 dX12_pot_25 0 rfl ?_
      refine x_iload_n C.1 dX12_pot_26 2 rfl ?_
      refine x_iload_n C.1 dX12_pot_27 3 rfl ?_
      refine x_callVl C (As := [vI x2, vI x3]) (rest := []) 0 (xw_at (N := 33) (i := 0) (by decide) rfl) vc_X12 (m_goesThrough l D cy ad G V1 J Rr hI1 hJ hR x2 ⟨by omega, by omega⟩ x3 ⟨by omega, by omega⟩ hW (by omega)) (l1 := []) (l2 := []) (List.append_nil _).symm (w2 := fun u : xS => MW cy ad u.1 u.2.1 u.2.2) (fun _ => List.append_nil _) rfl wm_yX12_goesThrough wn_X12 wl_X12_347 wi_yX12_goesThrough we_yX12_goesThrough hd_yX12_goesThrough rfl ⟨Nat.le_of_ble_eq_true rfl, Nat.le_of_ble_eq_true rfl⟩ (Nat.le_of_ble_eq_true rfl) ⟨Nat.le_of_ble_eq_true rfl, Nat.le_of_ble_eq_true rfl⟩ dX12_pot_28 (fun z7 u7 bz7 h7 => ?_)
      obtain ⟨V7, J7, R7⟩ := u7
      obtain ⟨hS7, hBc7, hFc7⟩ := h7
      replace hF := calSM_i hF hFc7 hBc7
      have hB7 := hB1.tr hBc7 (m := 7253591811175922467340288) rfl
      obtain ⟨hI7, hJ7, hR7⟩ := hS7
      dsimp only at hI7 hJ7 hR7 ⊢
      refine x_lstore C.1 (lv' := [(5, vJ z7), (0, .ref (ad 0)), (1, vI x1), (2, vI x2), (3, vI x3), (4, vI x4)]) dX12_pot_31 (by decide) rfl ?_
      refine x_aload_n C.1 dX12_pot_33 1 rfl ?_
      refine x_getA C (N := 33) (i := 0) (by decide) rfl vc_X12 wx_X12 0 (by decide) wf_X12_7 (a := 1) rfl dX12_pot_34 ?_
      refine x_iconst C.1 (n := 0) dX12_pot_37 ?_
      refine x_iload_n C.1 dX12_pot_38 2 rfl ?_
      refine x_iadd C.1 (v := x1) (by omega) dX12_pot_39 ?_
      obtain ⟨z8, ez8, bz8⟩ := hI7.rd 1 x1.toNat (x := 0) (y := 24) (rgN_8 (Or.inl rfl) (by omega))
      replace hF := hF.to (rdb_e (z := z8) ez8)
      replace hF := hF.fc bz8
      refine x_iald C (N := 33) (i := 1) (q := x1) (by decide) rfl (by omega) (by decide) dX12_pot_40 (a := z8) ez8 ?_
      refine x_istore C.1 (lv' := [(7, vI z8), (5, vJ z7), (0, .ref (ad 0)), (1, vI x1), (2, vI x2), (3, vI x3), (4, vI x4)]) dX12_pot_41 (by decide) rfl ?_
      refine x_aload_n C.1 dX12_pot_43 2 rfl ?_
      refine x_getA C (N := 33) (i := 0) (by decide) rfl vc_X12 wx_X12 0 (by decide) wf_X12_7 (a := 1) rfl dX12_pot_44 ?_
      refine x_iconst C.1 (n := 4) dX12_pot_47 ?_
      refine x_iload_n C.1 dX12_pot_48 3 rfl ?_
      refine x_iadd C.1 (v := x1 + 4) (by omega) dX12_pot_49 ?_
      obtain ⟨z9, ez9, bz9⟩ := hI7.rd 1 ((x1 + 4).toNat) (x := 0) (y := 24) (rgN_8 (Or.inl rfl) (by omega))
      replace hF := hF.to (rdb_e (z := z9) ez9)
      replace hF := hF.fc bz9
      refine x_iald C (N := 33) (i := 1) (q := x1 + 4) (by decide) rfl (by omega) (by decide) dX12_pot_50 (a := z9) ez9 ?_
      refine x_istore C.1 (lv' := [(8, vI z9), (7, vI z8), (5, vJ z7), (0, .ref (ad 0)), (1, vI x1), (2, vI x2), (3, vI x3), (4, vI x4)]) dX12_pot_51 (by decide) rfl ?_
      refine x_aload_n C.1 dX12_pot_53 3 rfl ?_
      refine x_getA C (N := 33) (i := 0) (by decide) rfl vc_X12 wx_X12 0 (by decide) wf_X12_7 (a := 1) rfl dX12_pot_54 ?_
      refine x_iconst C.1 (n := 0) dX12_pot_57 ?_
      refine x_iload_n C.1 dX12_pot_58 4 rfl ?_
      refine x_iadd C.1 (v := x1) (by omega) dX12_pot_59 ?_
      refine x_iload C.1 dX12_pot_60 7 rfl ?_
      refine x_iast C (N := 33) (i := 1) (q := x1) (a := x4) (by decide) rfl (by omega) (by decide) dX12_pot_62 ?_
      refine x_gV ?_
      intro V10 hV10
      have hI10 : MI G V10 := hI7.up hV10 (rgN_8 (Or.inl rfl) (by omega)) (by omega) rfl (Or.inr (by omega))
      have hB10 := hB7.up hV10 (by rw [mkey_r (by decide)]; rfl)
      replace hF := hF.to (rdb_e (z := V10) hV10.symm)
      refine x_aload_n C.1 dX12_pot_63 3 rfl ?_
      refine x_getA C (N := 33) (i := 0) (by decide) rfl vc_X12 wx_X12 0 (by decide) wf_X12_7 (a := 1) rfl dX12_pot_64 ?_
      refine x_iconst C.1 (n := 4) dX12_pot_67 ?_
      refine x_iload_n C.1 dX12_pot_68 4 rfl ?_
      refine x_iadd C.1 (v := x1 + 4) (by omega) dX12_pot_69 ?_
      refine x_iload C.1 dX12_pot_70 7 rfl ?_
      refine x_iload C.1 dX12_pot_72 0 rfl ?_
      refine x_callSi C (As := [vI x4, vI z9]) (rest := [vI (x1 + 4), .ref (ad 1)]) (m_min l D cy x4 ⟨by omega, by omega⟩ z9 ⟨by omega, by omega⟩) (l1 := []) (l2 := _) rfl (w2 := fun _ => _) (fun _ => rfl) rfl wm_yX12_min wn_X12 wl_X12_133 wi_yX12_min hd_yX12_min rfl ⟨Nat.le_of_ble_eq_true rfl, Nat.le_of_ble_eq_true rfl⟩ (Nat.le_of_ble_eq_true rfl) ⟨Nat.le_of_ble_eq_true rfl, Nat.le_of_ble_eq_true rfl⟩ dX12_pot_74 (fun z11 u11 bz11 h11 => ?_)
      obtain ⟨hx11_0, hFc11⟩ := h11
      replace hF := calR_i hF hFc11
      have bm12 : 0 ≤ z11 ∧ z11 ≤ 24 := by omega
      skip
      refine x_iast C (N := 33) (i := 1) (q := x1 + 4) (a := z11) (by decide) rfl (by omega) (by decide) dX12_pot_77 ?_
      refine x_gV ?_
      intro V13 hV13
      have hI13 : MI G V13 := hI10.up hV13 (rgN_8 (Or.inl rfl) (by omega)) (by omega) rfl (Or.inr (by omega))
      have hB13 := hB10.up hV13 (by rw [mkey_r (by decide)]; rfl)
      replace hF := hF.to (rdb_e (z := V13) hV13.symm)
      refine x_aload_n C.1 dX12_pot_78 3 rfl ?_
      refine x_aload_n C.1 dX12_pot_79 3 rfl ?_
      refine x_getA C (N := 33) (i := 0) (by decide) rfl vc_X12 wx_X12 0 (by decide) wf_X12_7 (a := 1) rfl dX12_pot_80 ?_
      refine x_iconst C.1 (n := 4) dX12_pot_83 ?_
      refine x_iload_n C.1 dX12_pot_84 4 rfl ?_
      refine x_iadd C.1 (v := x1 + 4) (by omega) dX12_pot_85 ?_
      refine x_iald C (N := 33) (i := 1) (q := x1 + 4) (by decide) rfl (by omega) (by decide) dX12_pot_86 (a := z11) ((congrFun (congrFun hV13 1) ((x1 + 4).toNat)).trans (up2_s _ _ _ _)) ?_
      refine x_putI C (N := 33) (i := 0) (by decide) rfl vc_X12 wx_X12 34 (by decide) wf_X12_301 tyX12 tyX12_ok nmX12 rfl (tyX12_ok 34 (by decide)) rfl dX12_pot_87 rfl rfl ?_
      refine x_gV ?_
      intro V14 hV14
      have hI14 : MI G V14 := hI13.up hV14 rfl (by omega) rfl (Or.inl (by decide))
      have hB14 := hB13.up hV14 rfl
      replace hF := hF.to (rdb_e (z := V14) hV14.symm)
      refine x_aload_n C.1 dX12_pot_90 3 rfl ?_
      refine x_iload_n C.1 dX12_pot_91 5 rfl ?_
      refine x_iload_n C.1 dX12_pot_92 6 rfl ?_
      refine x_callVl C (As := [vI x2, vI x3]) (rest := []) 0 (xw_at (N := 33) (i := 0) (by decide) rfl) vc_X12 (m_goesThrough l D cy ad G V14 J7 R7 hI14 hJ7 hR7 x2 ⟨by omega, by omega⟩ x3 ⟨by omega, by omega⟩ hW (by omega)) (l1 := []) (l2 := []) (List.append_nil _).symm (w2 := fun u : xS => MW cy ad u.1 u.2.1 u.2.2) (fun _ => List.append_nil _) rfl wm_yX12_goesThrough wn_X12 wl_X12_347 wi_yX12_goesThrough we_yX12_goesThrough hd_yX12_goesThrough rfl ⟨Nat.le_of_ble_eq_true rfl, Nat.le_of_ble_eq_true rfl⟩ (Nat.le_of_ble_eq_true rfl) ⟨Nat.le_of_ble_eq_true rfl, Nat.le_of_ble_eq_true rfl⟩ dX12_pot_93 (fun z15 u15 bz15 h15 => ?_)
      obtain ⟨V15, J15, R15⟩ := u15
      obtain ⟨hS15, hBc15, hFc15⟩ := h15
      replace hF := calSM_i hF hFc15 hBc15
      have hB15 := hB14.tr hBc15 (m := 7253591811175922467340288) rfl
      obtain ⟨hI15, hJ15, hR15⟩ := hS15
      dsimp only at hI15 hJ15 hR15 ⊢
      refine x_lstore C.1 (lv' := [(9, vJ z15), (8, vI z9), (7, vI z8), (5, vJ z7), (0, .ref (ad 0)), (1, vI x1), (2, vI x2), (3, vI x3), (4, vI x4)]) dX12_pot_96 (by decide) rfl ?_
      refine x_aload_n C.1 dX12_pot_98 4 rfl ?_
      refine x_getA C (N := 33) (i := 0) (by decide) rfl vc_X12 wx_X12 0 (by decide) wf_X12_7 (a := 1) rfl dX12_pot_99 ?_
      refine x_iconst C.1 (n := 0) dX12_pot_102 ?_
      refine x_iload_n C.1 dX12_pot_103 5 rfl ?_
      refine x_iadd C.1 (v := x1) (by omega) dX12_pot_104 ?_
      refine x_iload C.1 dX12_pot_105 2 rfl ?_
      refine x_iast C (N := 33) (i := 1) (q := x1) (a := z8) (by decide) rfl (by omega) (by decide) dX12_pot_107 ?_
      refine x_gV ?_
      intro V16 hV16
      have hI16 : MI G V16 := hI15.up hV16 (rgN_8 (Or.inl rfl) (by omega)) (by omega) rfl (Or.inr (by omega))
      have hB16 := hB15.up hV16 (by rw [mkey_r (by decide)]; rfl)
      replace hF := hF.to (rdb_e (z := V16) hV16.symm)
      refine x_aload_n C.1 dX12_pot_108 4 rfl ?_
      refine x_getA C (N := 33) (i := 0) (by decide) rfl vc_X12 wx_X12 0 (by decide) wf_X12_7 (a := 1) rfl dX12_pot_109 ?_
      refine x_iconst C.1 (n := 4) dX12_pot_112 ?_
      refine x_iload_n C.1 dX12_pot_113 5 rfl ?_
      refine x_iadd C.1 (v := x1 + 4) (by omega) dX12_pot_114 ?_
      refine x_iload C.1 dX12_pot_115 1 rfl ?_
      refine x_iast C (N := 33) (i := 1) (q := x1 + 4) (a := z9) (by decide) rfl (by omega) (by decide) dX12_pot_117 ?_
      refine x_gV ?_
      intro V17 hV17
      have hI17 : MI G V17 := hI16.up hV17 (rgN_8 (Or.inl rfl) (by omega)) (by omega) rfl (Or.inr (by omega))
      have hB17 := hB16.up hV17 (by rw [mkey_r (by decide)]; rfl)
      replace hF := hF.to (rdb_e (z := V17) hV17.symm)
      refine x_lload C.1 dX12_pot_118 0 rfl ?_
      refine x_lload C.1 dX12_pot_120 3 rfl ?_
      refine x_lsub C.1 (v := z15 - z7) (by omega) dX12_pot_122 ?_
      refine x_wrapJg ?_
      intro z18 bz18 ew18
      replace hF := hF.to (rdb_e (z := z18) ew18.symm)
      exact x_lret (S := xS) (post := (fun a (u : xS) => MS G u ∧ FBm 65282031152678148623040512 V u.1 ∧ (f_m_pot x1 x2 x3 x4 V J Rr) (a, u))) (w1 := (fun u : xS => MW cy ad u.1 u.2.1 u.2.2)) (a := z18) C hr rfl dX12_pot_123 (by omega) (V17, J15, R15) rfl ⟨⟨hI17, hJ15, hR15⟩, hB17, hF _ rfl⟩
    · replace hF := hF.to (if_neg (fun hh => hh hc5))
      refine x_ldc2 C.1 (n := -1000000000000) wq_X12_351 dX12_pot_21 ?_
      exact x_lret (S := xS) (post := (fun a (u : xS) => MS G u ∧ FBm 65282031152678148623040512 V u.1 ∧ (f_m_pot x1 x2 x3 x4 V J Rr) (a, u))) (w1 := (fun u : xS => MW cy ad u.1 u.2.1 u.2.2)) (a := (-1000000000000)) C hr rfl dX12_pot_24 (by decide) (V1, J, Rr) rfl ⟨⟨hI1, hJ, hR⟩, hB1, hF _ rfl⟩
theorem dX12_ruleFor_0 : decode cX12_ruleFor 0 = .ok (.aload_n 0, 1) := by decide +kernel
theorem dX12_ruleFor_1 : decode cX12_ruleFor 1 = .ok (.iload_n 1, 1) := by decide +kernel
theorem dX12_ruleFor_2 : decode cX12_ruleFor 2 = .ok (.iload_n 2, 1) := by decide +kernel
theorem dX12_ruleFor_3 : decode cX12_ruleFor 3 = .ok (.iload_n 3, 1) := by decide +kernel
theorem dX12_ruleFor_4 : decode cX12_ruleFor 4 = .ok (.invokevirtual 342, 3) := by decide +kernel
theorem dX12_ruleFor_7 : decode cX12_ruleFor 7 = .ok (.ifCond .eq 24, 3) := by decide +kernel
theorem dX12_ruleFor_10 : decode cX12_ruleFor 10 = .ok (.iload 4, 2) := by decide +kernel
theorem dX12_ruleFor_12 : decode cX12_ruleFor 12 = .ok (.iconst 1, 1) := by decide +kernel
theorem dX12_ruleFor_13 : decode cX12_ruleFor 13 = .ok (.bipush 9, 2) := by decide +kernel
theorem dX12_ruleFor_15 : decode cX12_ruleFor 15 = .ok (.invokestatic 126, 3) := by decide +kernel
theorem dX12_ruleFor_18 : decode cX12_ruleFor 18 = .ok (.ifCond .eq 13, 3) := by decide +kernel
theorem dX12_ruleFor_21 : decode cX12_ruleFor 21 = .ok (.iload 5, 2) := by decide +kernel
theorem dX12_ruleFor_23 : decode cX12_ruleFor 23 = .ok (.iconst 0, 1) := by decide +kernel
theorem dX12_ruleFor_24 : decode cX12_ruleFor 24 = .ok (.iconst 1, 1) := by decide +kernel
theorem dX12_ruleFor_25 : decode cX12_ruleFor 25 = .ok (.invokestatic 126, 3) := by decide +kernel
theorem dX12_ruleFor_28 : decode cX12_ruleFor 28 = .ok (.ifCond .ne 7, 3) := by decide +kernel
theorem dX12_ruleFor_31 : decode cX12_ruleFor 31 = .ok (.ldc2_w 345, 3) := by decide +kernel
theorem dX12_ruleFor_34 : decode cX12_ruleFor 34 = .ok (.lreturn, 1) := by decide +kernel
theorem dX12_ruleFor_35 : decode cX12_ruleFor 35 = .ok (.iconst 0, 1) := by decide +kernel
theorem dX12_ruleFor_36 : decode cX12_ruleFor 36 = .ok (.istore 6, 2) := by decide +kernel
theorem dX12_ruleFor_38 : decode cX12_ruleFor 38 = .ok (.ldc2_w 345, 3) := by decide +kernel
theorem dX12_ruleFor_41 : decode cX12_ruleFor 41 = .ok (.lstore 7, 2) := by decide +kernel
theorem dX12_ruleFor_43 : decode cX12_ruleFor 43 = .ok (.aload_n 0, 1) := by decide +kernel
theorem dX12_ruleFor_44 : decode cX12_ruleFor 44 = .ok (.iload 4, 2) := by decide +kernel
theorem dX12_ruleFor_46 : decode cX12_ruleFor 46 = .ok (.putfield 108, 3) := by decide +kernel
theorem dX12_ruleFor_49 : decode cX12_ruleFor 49 = .ok (.iconst 0, 1) := by decide +kernel
theorem dX12_ruleFor_50 : decode cX12_ruleFor 50 = .ok (.istore 9, 2) := by decide +kernel
theorem dX12_ruleFor_52 : decode cX12_ruleFor 52 = .ok (.iload 9, 2) := by decide +kernel
theorem dX12_ruleFor_54 : decode cX12_ruleFor 54 = .ok (.bipush 24, 2) := by decide +kernel
theorem dX12_ruleFor_56 : decode cX12_ruleFor 56 = .ok (.if_icmp .gt 42, 3) := by decide +kernel
theorem dX12_ruleFor_59 : decode cX12_ruleFor 59 = .ok (.aload_n 0, 1) := by decide +kernel
theorem dX12_ruleFor_60 : decode cX12_ruleFor 60 = .ok (.iload 9, 2) := by decide +kernel
theorem dX12_ruleFor_62 : decode cX12_ruleFor 62 = .ok (.putfield 310, 3) := by decide +kernel
theorem dX12_ruleFor_65 : decode cX12_ruleFor 65 = .ok (.aload_n 0, 1) := by decide +kernel
theorem dX12_ruleFor_66 : decode cX12_ruleFor 66 = .ok (.iload_n 2, 1) := by decide +kernel
theorem dX12_ruleFor_67 : decode cX12_ruleFor 67 = .ok (.iload_n 3, 1) := by decide +kernel
theorem dX12_ruleFor_68 : decode cX12_ruleFor 68 = .ok (.invokevirtual 347, 3) := by decide +kernel
theorem dX12_ruleFor_71 : decode cX12_ruleFor 71 = .ok (.lstore 10, 2) := by decide +kernel
theorem dX12_ruleFor_73 : decode cX12_ruleFor 73 = .ok (.lload 10, 2) := by decide +kernel
theorem dX12_ruleFor_75 : decode cX12_ruleFor 75 = .ok (.lload 7, 2) := by decide +kernel
theorem dX12_ruleFor_77 : decode cX12_ruleFor 77 = .ok (.lcmp, 1) := by decide +kernel
theorem dX12_ruleFor_78 : decode cX12_ruleFor 78 = .ok (.ifCond .gt 6, 3) := by decide +kernel
theorem dX12_ruleFor_81 : decode cX12_ruleFor 81 = .ok (.goto 11, 3) := by decide +kernel
theorem dX12_ruleFor_84 : decode cX12_ruleFor 84 = .ok (.lload 10, 2) := by decide +kernel
theorem dX12_ruleFor_86 : decode cX12_ruleFor 86 = .ok (.lstore 7, 2) := by decide +kernel
theorem dX12_ruleFor_88 : decode cX12_ruleFor 88 = .ok (.iload 9, 2) := by decide +kernel
theorem dX12_ruleFor_90 : decode cX12_ruleFor 90 = .ok (.istore 6, 2) := by decide +kernel
theorem dX12_ruleFor_92 : decode cX12_ruleFor 92 = .ok (.iinc 9 1, 3) := by decide +kernel
theorem dX12_ruleFor_95 : decode cX12_ruleFor 95 = .ok (.goto (-43), 3) := by decide +kernel
theorem dX12_ruleFor_98 : decode cX12_ruleFor 98 = .ok (.aload_n 0, 1) := by decide +kernel
theorem dX12_ruleFor_99 : decode cX12_ruleFor 99 = .ok (.iconst (-1), 1) := by decide +kernel
theorem dX12_ruleFor_100 : decode cX12_ruleFor 100 = .ok (.putfield 108, 3) := by decide +kernel
theorem dX12_ruleFor_103 : decode cX12_ruleFor 103 = .ok (.iload 5, 2) := by decide +kernel
theorem dX12_ruleFor_105 : decode cX12_ruleFor 105 = .ok (.ifCond .ne 9, 3) := by decide +kernel
theorem dX12_ruleFor_108 : decode cX12_ruleFor 108 = .ok (.iload 6, 2) := by decide +kernel
theorem dX12_ruleFor_110 : decode cX12_ruleFor 110 = .ok (.i2l, 1) := by decide +kernel
theorem dX12_ruleFor_111 : decode cX12_ruleFor 111 = .ok (.goto 5, 3) := by decide +kernel
theorem dX12_ruleFor_114 : decode cX12_ruleFor 114 = .ok (.lload 7, 2) := by decide +kernel
theorem dX12_ruleFor_116 : decode cX12_ruleFor 116 = .ok (.lreturn, 1) := by decide +kernel
set_option maxRecDepth 100000 in
def f_m_ruleFor (x1 : Int) (x2 : Int) (x3 : Int) (x4 : Int) (x5 : Int) (V : Nat → Nat → Int) (J : Nat → Nat → Int) (Rr : Nat → Nat → Nat) : (Int × xS) → Prop :=
  calVM 58028439341502226155700224 V (f_m_canGo x1 x2 x3 V J Rr) fun z1 V1 => fct (0 ≤ z1 ∧ z1 ≤ 1) <| (if z1 = 0 then rtn ((-1), (V1, J, Rr)) else calR (f_m_in x4 1 9) fun z4 => fct (0 ≤ z4 ∧ z4 ≤ 1) <| (if z4 = 0 then rtn ((-1), (V1, J, Rr)) else calR (f_m_in x5 0 1) fun z7 => fct (0 ≤ z7 ∧ z7 ≤ 1) <| (if ¬ z7 = 0 then rdb (up2 V1 0 31 x4) fun V10 => lop6 (27) (fun rc89 (z86 : Int) (z87 : Int) (z88 : Int) (V89 : Nat → Nat → Int) (J89 : Nat → Nat → Int) (R89 : Nat → Nat → Nat) => (if 24 < z86 then rdb (up2 V89 0 31 (-1)) fun V115 => (if ¬ x5 = 0 then rtn (z87, (V115, J89, R89)) else rtn (z88, (V115, J89, R89))) else rdb (up2 V89 0 32 z86) fun V117 => calSM 7253591811175922467340288 V117 (f_m_goesThrough x2 x3 V117 J89 R89) fun z118 V118 J118 R118 => jnk (fun (z120 : Int) (z121 : Int) => rc89 (z86 + 1) z121 z120 V118 J118 R118) fun jf122 => (if 0 < (lcI z118 z87) then jf122 z86 z118 else jf122 z88 z87))) 0 ((-1)) 0 V10 J Rr else rtn ((-1), (V1, J, Rr)))))
set_option maxHeartbeats 8000000 in
set_option maxRecDepth 100000 in
theorem m_ruleFor (l : Launch) (D : va_G) (cy : Nat → ClassId) (ad : Nat → Nat) (G : Nat → Nat → Int) (V J : Nat → Nat → Int) (Rr : Nat → Nat → Nat) (hI : MI G V) (hJ : VJ J) (hR : MR Rr) (x1 : Int) (bx1 : -2147483648 ≤ x1 ∧ x1 ≤ 2147483647) (x2 : Int) (bx2 : -2147483648 ≤ x2 ∧ x2 ≤ 2147483647) (x3 : Int) (bx3 : -2147483648 ≤ x3 ∧ x3 ≤ 2147483647) (x4 : Int) (bx4 : -2147483648 ≤ x4 ∧ x4 ≤ 2147483647) (x5 : Int) (bx5 : -2147483648 ≤ x5 ∧ x5 ≤ 2147483647) (hW : WP G) : xMl l D (xTY cy) yX12_ruleFor cX12_ruleFor 12 (some .long) 7 160 0 0 [.ref (ad 0), vI x1, vI x2, vI x3, vI x4, vI x5] (MW cy ad V J Rr) (fun u : xS => MW cy ad u.1 u.2.1 u.2.2) (fun a (u : xS) => MS G u ∧ FBm 65282031152678155065491456 V u.1 ∧ (f_m_ruleFor x1 x2 x3 x4 x5 V J Rr) (a, u)) := by
  refine xMl.mk (lv0 := [(0, .ref (ad 0)), (1, vI x1), (2, vI x2), (3, vI x3), (4, vI x4), (5, vI x5)]) (by decide) rfl (Nat.le_of_ble_eq_true rfl) (fun p e s m below meth c A C hr hnm hAe => ?_)
  have C : xC2 p s m _ meth c D A s.heap 12 cX12_ruleFor RX12 (xTY cy) := C
  have hB : FBm 65282031152678155065491456 V V := FBm.rf _ _
  have hF := Imp.of_eq (f_m_ruleFor.eq_def x1 x2 x3 x4 x5 V J Rr)
  refine x_aload_n C.1 dX12_ruleFor_0 0 rfl ?_
  refine x_iload_n C.1 dX12_ruleFor_1 1 rfl ?_
  refine x_iload_n C.1 dX12_ruleFor_2 2 rfl ?_
  refine x_iload_n C.1 dX12_ruleFor_3 3 rfl ?_
  refine x_callVi C (As := [vI x1, vI x2, vI x3]) (rest := []) 0 (xw_at (N := 33) (i := 0) (by decide) rfl) vc_X12 (m_canGo l D cy ad G V J Rr hI hJ hR x1 ⟨by omega, by omega⟩ x2 ⟨by omega, by omega⟩ x3 ⟨by omega, by omega⟩) (l1 := []) (l2 := []) (List.append_nil _).symm (w2 := fun u : Nat → Nat → Int => MW cy ad u J Rr) (fun _ => List.append_nil _) rfl wm_yX12_canGo wn_X12 wl_X12_342 wi_yX12_canGo we_yX12_canGo hd_yX12_canGo rfl ⟨Nat.le_of_ble_eq_true rfl, Nat.le_of_ble_eq_true rfl⟩ (Nat.le_of_ble_eq_true rfl) ⟨Nat.le_of_ble_eq_true rfl, Nat.le_of_ble_eq_true rfl⟩ dX12_ruleFor_4 (fun z1 V1 bz1 h1 => ?_)
  obtain ⟨hI1, bq1, hx1_0, hBc1, hFc1⟩ := h1
  replace hF := calVM_i hF hFc1 hBc1
  replace hF := hF.fc bq1
  have hB1 := hB.tr hBc1 (m := 58028439341502226155700224) rfl
  refine x_if_eq C.1 (tgt := 31) dX12_ruleFor_7 (by decide) (by omega) (fun hc2 => ?_) (fun hc2 => ?_)
  · replace hF := hF.to (if_pos hc2)
    refine x_ldc2 C.1 (n := -1) wq_X12_345 dX12_ruleFor_31 ?_
    exact x_lret (S := xS) (post := (fun a (u : xS) => MS G u ∧ FBm 65282031152678155065491456 V u.1 ∧ (f_m_ruleFor x1 x2 x3 x4 x5 V J Rr) (a, u))) (w1 := (fun u : xS => MW cy ad u.1 u.2.1 u.2.2)) (a := (-1)) C hr rfl dX12_ruleFor_34 (by decide) (V1, J, Rr) rfl ⟨⟨hI1, hJ, hR⟩, hB1, hF _ rfl⟩
  · replace hF := hF.to (if_neg hc2)
    have hon3 := Sp.on hx1_0 (by omega)
    refine x_iload C.1 dX12_ruleFor_10 4 rfl ?_
    refine x_iconst C.1 (n := 1) dX12_ruleFor_12 ?_
    refine x_bipush C.1 (n := 9) dX12_ruleFor_13 ?_
    refine x_callSi C (As := [vI x4, vI 1, vI 9]) (rest := []) (m_in l D cy x4 ⟨by omega, by omega⟩ 1 ⟨by decide, by decide⟩ 9 ⟨by decide, by decide⟩) (l1 := []) (l2 := _) rfl (w2 := fun _ => _) (fun _ => rfl) rfl wm_yX12_in wn_X12 wl_X12_126 wi_yX12_in hd_yX12_in rfl ⟨Nat.le_of_ble_eq_true rfl, Nat.le_of_ble_eq_true rfl⟩ (Nat.le_of_ble_eq_true rfl) ⟨Nat.le_of_ble_eq_true rfl, Nat.le_of_ble_eq_true rfl⟩ dX12_ruleFor_15 (fun z4 u4 bz4 h4 => ?_)
    obtain ⟨bq4, hx4_0, hFc4⟩ := h4
    replace hF := calR_i hF hFc4
    replace hF := hF.fc bq4
    refine x_if_eq C.1 (tgt := 31) dX12_ruleFor_18 (by decide) (by omega) (fun hc5 => ?_) (fun hc5 => ?_)
    · replace hF := hF.to (if_pos hc5)
      refine x_ldc2 C.1 (n := -1) wq_X12_345 dX12_ruleFor_31 ?_
      exact x_lret (S := xS) (post := (fun a (u : xS) => MS G u ∧ FBm 65282031152678155065491456 V u.1 ∧ (f_m_ruleFor x1 x2 x3 x4 x5 V J Rr) (a, u))) (w1 := (fun u : xS => MW cy ad u.1 u.2.1 u.2.2)) (a := (-1)) C hr rfl dX12_ruleFor_34 (by decide) (V1, J, Rr) rfl ⟨⟨hI1, hJ, hR⟩, hB1, hF _ rfl⟩
    · replace hF := hF.to (if_neg hc5)
      have hon6 := Sq.on hx4_0 (by omega)
      refine x_iload C.1 dX12_ruleFor_21 5 rfl ?_
      refine x_iconst C.1 (n := 0) dX12_ruleFor_23 ?_
      refine x_iconst C.1 (n := 1) dX12_ruleFor_24 ?_
      refine x_callSi C (As := [vI x5, vI 0, vI 1]) (rest := []) (m_in l D cy x5 ⟨by omega, by omega⟩ 0 ⟨by decide, by decide⟩ 1 ⟨by decide, by decide⟩) (l1 := []) (l2 := _) rfl (w2 := fun _ => _) (fun _ => rfl) rfl wm_yX12_in wn_X12 wl_X12_126 wi_yX12_in hd_yX12_in rfl ⟨Nat.le_of_ble_eq_true rfl, Nat.le_of_ble_eq_true rfl⟩ (Nat.le_of_ble_eq_true rfl) ⟨Nat.le_of_ble_eq_true rfl, Nat.le_of_ble_eq_true rfl⟩ dX12_ruleFor_25 (fun z7 u7 bz7 h7 => ?_)
      obtain ⟨bq7, hx7_0, hFc7⟩ := h7
      replace hF := calR_i hF hFc7
      replace hF := hF.fc bq7
      refine x_if_ne C.1 (tgt := 35) dX12_ruleFor_28 (by decide) (by omega) (fun hc8 => ?_) (fun hc8 => ?_)
      · replace hF := hF.to (if_pos hc8)
        have hon9 := Sq.on hx7_0 (by omega)
        refine x_iconst C.1 (n := 0) dX12_ruleFor_35 ?_
        refine x_istore C.1 (lv' := [(6, vI 0), (0, .ref (ad 0)), (1, vI x1), (2, vI x2), (3, vI x3), (4, vI x4), (5, vI x5)]) dX12_ruleFor_36 (by decide) rfl ?_
        refine x_ldc2 C.1 (n := -1) wq_X12_345 dX12_ruleFor_38 ?_
        refine x_lstore C.1 (lv' := [(7, vJ (-1)), (6, vI 0), (0, .ref (ad 0)), (1, vI x1), (2, vI x2), (3, vI x3), (4, vI x4), (5, vI x5)]) dX12_ruleFor_41 (by decide) rfl ?_
        refine x_aload_n C.1 dX12_ruleFor_43 2 rfl ?_
        refine x_iload C.1 dX12_ruleFor_44 6 rfl ?_
        refine x_putI C (N := 33) (i := 0) (by decide) rfl vc_X12 wx_X12 31 (by decide) wf_X12_108 tyX12 tyX12_ok nmX12 rfl (tyX12_ok 31 (by decide)) rfl dX12_ruleFor_46 rfl rfl ?_
        refine x_gV ?_
        intro V10 hV10
        have hI10 : MI G V10 := hI1.up hV10 rfl (by omega) rfl (Or.inl (by decide))
        have hB10 := hB1.up hV10 rfl
        replace hF := hF.to (rdb_e (z := V10) hV10.symm)
        refine x_iconst C.1 (n := 0) dX12_ruleFor_49 ?_
        refine x_istore C.1 (lv' := [(9, vI 0), (7, vJ (-1)), (6, vI 0), (0, .ref (ad 0)), (1, vI x1), (2, vI x2), (3, vI x3), (4, vI x4), (5, vI x5)]) dX12_ruleFor_50 (by decide) rfl ?_
        obtain ⟨bd89, hbd89, hF⟩ := lop6_ex hF
        refine x_loop (I := fun x : Int × Int × Int × (Nat → Nat → Int) × (Nat → Nat → Int) × (Nat → Nat → Nat) => match x with | (z86, z87, z88, V89, J89, R89) => (0 ≤ z86 ∧ z86 ≤ 25) ∧ (-1 ≤ z87 ∧ z87 ≤ 9223372036854775807) ∧ (0 ≤ z88 ∧ z88 ≤ 2147483647) ∧ MI G V89 ∧ FBm 65282031152678155065491456 V V89 ∧ VJ J89 ∧ MR R89 ∧ (∃ nf : Nat, (26 - z86).toNat < nf ∧ Imp (lop6 nf bd89 z86 z87 z88 V89 J89 R89) (f_m_ruleFor x1 x2 x3 x4 x5 V J Rr))) (μ := fun x : Int × Int × Int × (Nat → Nat → Int) × (Nat → Nat → Int) × (Nat → Nat → Nat) => match x with | (z86, z87, z88, V89, J89, R89) => (26 - z86).toNat) (wsf := fun x : Int × Int × Int × (Nat → Nat → Int) × (Nat → Nat → Int) × (Nat → Nat → Nat) => match x with | (z86, z87, z88, V89, J89, R89) => MW cy ad V89 J89 R89) (lvf := fun x : Int × Int × Int × (Nat → Nat → Int) × (Nat → Nat → Int) × (Nat → Nat → Nat) => match x with | (z86, z87, z88, V89, J89, R89) => [(9, vI z86), (7, vJ z87), (6, vI z88), (0, .ref (ad 0)), (1, vI x1), (2, vI x2), (3, vI x3), (4, vI x4), (5, vI x5)]) (fun x hI89x ih89 => ?_) (0, (-1), 0, V10, J, Rr) ⟨⟨by decide, by decide⟩, ⟨by decide, by decide⟩, ⟨by decide, by decide⟩, hI10, hB10, hJ, hR, ⟨_, (by omega), hF⟩⟩ rfl rfl
        obtain ⟨z86, z87, z88, V89, J89, R89⟩ := x
        obtain ⟨bz86, bz87, bz88, hI89, hB89, hJ89, hR89, nf89, hn89, hF⟩ := hI89x
        try dsimp only
        obtain ⟨nf89, rfl⟩ : ∃ mm, nf89 = mm + 1 := ⟨nf89 - 1, (Nat.succ_pred_eq_of_pos (Nat.lt_of_le_of_lt (Nat.zero_le _) hn89)).symm⟩
        replace hF := hF.to (lop6_s hbd89)
        refine x_iload C.1 dX12_ruleFor_52 0 rfl ?_
        refine x_bipush C.1 (n := 24) dX12_ruleFor_54 ?_
        refine x_icmp_gt C.1 (tgt := 98) dX12_ruleFor_56 (by decide) (by omega) (by decide) (fun hc114 => ?_) (fun hc114 => ?_)
        · replace hF := hF.to (if_pos hc114)
          refine x_aload_n C.1 dX12_ruleFor_98 3 rfl ?_
          refine x_iconst C.1 (n := -1) dX12_ruleFor_99 ?_
          refine x_putI C (N := 33) (i := 0) (by decide) rfl vc_X12 wx_X12 31 (by decide) wf_X12_108 tyX12 tyX12_ok nmX12 rfl (tyX12_ok 31 (by decide)) rfl dX12_ruleFor_100 rfl rfl ?_
          refine x_gV ?_
          intro V115 hV115
          have hI115 : MI G V115 := hI89.up hV115 rfl (by decide) rfl (Or.inl (by decide))
          have hB115 := hB89.up hV115 rfl
          replace hF := hF.to (rdb_e (z := V115) hV115.symm)
          refine x_iload C.1 dX12_ruleFor_103 8 rfl ?_
          refine x_if_ne C.1 (tgt := 114) dX12_ruleFor_105 (by decide) (by omega) (fun hc116 => ?_) (fun hc116 => ?_)
          · replace hF := hF.to (if_pos hc116)
            refine x_lload C.1 dX12_ruleFor_114 1 rfl ?_
            exact x_lret (S := xS) (post := (fun a (u : xS) => MS G u ∧ FBm 65282031152678155065491456 V u.1 ∧ (f_m_ruleFor x1 x2 x3 x4 x5 V J Rr) (a, u))) (w1 := (fun u : xS => MW cy ad u.1 u.2.1 u.2.2)) (a := z87) C hr rfl dX12_ruleFor_116 (by omega) (V115, J89, R89) rfl ⟨⟨hI115, hJ89, hR89⟩, hB115, hF _ rfl⟩
          · replace hF := hF.to (if_neg (fun hh => hh hc116))
            refine x_iload C.1 dX12_ruleFor_108 2 rfl ?_
            refine x_i2l C.1 dX12_ruleFor_110 (by omega) ?_
            refine x_goto C.1 (tgt := 116) dX12_ruleFor_111 (by decide) ?_
            exact x_lret (S := xS) (post := (fun a (u : xS) => MS G u ∧ FBm 65282031152678155065491456 V u.1 ∧ (f_m_ruleFor x1 x2 x3 x4 x5 V J Rr) (a, u))) (w1 := (fun u : xS => MW cy ad u.1 u.2.1 u.2.2)) (a := z88) C hr rfl dX12_ruleFor_116 (by omega) (V115, J89, R89) rfl ⟨⟨hI115, hJ89, hR89⟩, hB115, hF _ rfl⟩
        · replace hF := hF.to (if_neg hc114)
          refine x_aload_n C.1 dX12_ruleFor_59 3 rfl ?_
          refine x_iload C.1 dX12_ruleFor_60 0 rfl ?_
          refine x_putI C (N := 33) (i := 0) (by decide) rfl vc_X12 wx_X12 32 (by decide) wf_X12_310 tyX12 tyX12_ok nmX12 rfl (tyX12_ok 32 (by decide)) rfl dX12_ruleFor_62 rfl rfl ?_
          refine x_gV ?_
          intro V117 hV117
          have hI117 : MI G V117 := hI89.up hV117 rfl (by omega) rfl (Or.inl (by decide))
          have hB117 := hB89.up hV117 rfl
          replace hF := hF.to (rdb_e (z := V117) hV117.symm)
          refine x_aload_n C.1 dX12_ruleFor_65 3 rfl ?_
          refine x_iload_n C.1 dX12_ruleFor_66 5 rfl ?_
          refine x_iload_n C.1 dX12_ruleFor_67 6 rfl ?_
          refine x_callVl C (As := [vI x2, vI x3]) (rest := []) 0 (xw_at (N := 33) (i := 0) (by decide) rfl) vc_X12 (m_goesThrough l D cy ad G V117 J89 R89 hI117 hJ89 hR89 x2 ⟨by omega, by omega⟩ x3 ⟨by omega, by omega⟩ hW (by omega)) (l1 := []) (l2 := []) (List.append_nil _).symm (w2 := fun u : xS => MW cy ad u.1 u.2.1 u.2.2) (fun _ => List.append_nil _) rfl wm_yX12_goesThrough wn_X12 wl_X12_347 wi_yX12_goesThrough we_yX12_goesThrough hd_yX12_goesThrough rfl ⟨Nat.le_of_ble_eq_true rfl, Nat.le_of_ble_eq_true rfl⟩ (Nat.le_of_ble_eq_true rfl) ⟨Nat.le_of_ble_eq_true rfl, Nat.le_of_ble_eq_true rfl⟩ dX12_ruleFor_68 (fun z118 u118 bz118 h118 => ?_)
          obtain ⟨V118, J118, R118⟩ := u118
          obtain ⟨hS118, hBc118, hFc118⟩ := h118
          replace hF := calSM_i hF hFc118 hBc118
          have hB118 := hB117.tr hBc118 (m := 7253591811175922467340288) rfl
          obtain ⟨hI118, hJ118, hR118⟩ := hS118
          dsimp only at hI118 hJ118 hR118 ⊢
          refine x_lstore C.1 (lv' := [(10, vJ z118), (9, vI z86), (7, vJ z87), (6, vI z88), (0, .ref (ad 0)), (1, vI x1), (2, vI x2), (3, vI x3), (4, vI x4), (5, vI x5)]) dX12_ruleFor_71 (by decide) rfl ?_
          refine x_lload C.1 dX12_ruleFor_73 0 rfl ?_
          refine x_lload C.1 dX12_ruleFor_75 2 rfl ?_
          refine x_lcmp C.1 rfl dX12_ruleFor_77 (by omega) (by omega) ?_
          have bz119 := lcI_r2 z118 z87
          obtain ⟨jf122, hjf122, hF⟩ := jn_ex hF
          refine x_join (I := fun x : Int × Int => match x with | (z120, z121) => (0 ≤ z120 ∧ z120 ≤ 2147483647) ∧ (-1 ≤ z121 ∧ z121 ≤ 9223372036854775807) ∧ Imp (jf122 z120 z121) (f_m_ruleFor x1 x2 x3 x4 x5 V J Rr)) (wsf := fun x : Int × Int => match x with | (z120, z121) => MW cy ad V118 J118 R118) (lvf := fun x : Int × Int => match x with | (z120, z121) => [(6, vI z120), (7, vJ z121), (10, vJ z118), (9, vI z86), (0, .ref (ad 0)), (1, vI x1), (2, vI x2), (3, vI x3), (4, vI x4), (5, vI x5)]) (stf := fun x : Int × Int => match x with | (z120, z121) => []) 92 (fun x hI122x => ?_) (fun jn122 => ?_)
          · obtain ⟨z120, z121⟩ := x
            obtain ⟨bz120, bz121, hF⟩ := hI122x
            try dsimp only
            replace hF := hF.to (jn_s2 hjf122)
            refine x_iinc C.1 (v := z86 + 1) (lv' := [(9, vI (z86 + 1)), (6, vI z120), (7, vJ z121), (10, vJ z118), (0, .ref (ad 0)), (1, vI x1), (2, vI x2), (3, vI x3), (4, vI x4), (5, vI x5)]) (by omega) dX12_ruleFor_92 3 rfl (by decide) rfl ?_
            refine x_goto C.1 (tgt := 52) dX12_ruleFor_95 (by decide) ?_
            refine x_lv [(9, vI (z86 + 1)), (7, vJ z121), (6, vI z120), (0, .ref (ad 0)), (1, vI x1), (2, vI x2), (3, vI x3), (4, vI x4), (5, vI x5)] [0, 2, 1, 4, 5, 6, 7, 8, 9] rfl ?_
            have hmu89 : (26 - (z86 + 1)).toNat < (26 - z86).toNat := (by omega)
            exact ih89 (z86 + 1, z121, z120, V118, J118, R118) ⟨⟨by omega, by omega⟩, ⟨by omega, by omega⟩, ⟨by omega, by omega⟩, hI118, hB118, hJ118, hR118, ⟨nf89, Nat.lt_of_lt_of_le hmu89 (Nat.le_of_lt_succ hn89), hF⟩⟩ hmu89
          · refine x_if_gt C.1 (tgt := 84) dX12_ruleFor_78 (by decide) (by omega) (fun hc123 => ?_) (fun hc123 => ?_)
            · replace hF := hF.to (if_pos hc123)
              rw [lcI_gt] at hc123
              refine x_lload C.1 dX12_ruleFor_84 0 rfl ?_
              refine x_lstore C.1 (lv' := [(7, vJ z118), (10, vJ z118), (9, vI z86), (6, vI z88), (0, .ref (ad 0)), (1, vI x1), (2, vI x2), (3, vI x3), (4, vI x4), (5, vI x5)]) dX12_ruleFor_86 (by decide) rfl ?_
              refine x_iload C.1 dX12_ruleFor_88 2 rfl ?_
              refine x_istore C.1 (lv' := [(6, vI z86), (7, vJ z118), (10, vJ z118), (9, vI z86), (0, .ref (ad 0)), (1, vI x1), (2, vI x2), (3, vI x3), (4, vI x4), (5, vI x5)]) dX12_ruleFor_90 (by decide) rfl ?_
              exact jn122 (z86, z118) ⟨⟨by omega, by omega⟩, ⟨by omega, by omega⟩, hF⟩
            · replace hF := hF.to (if_neg hc123)
              rw [lcI_gt] at hc123
              refine x_goto C.1 (tgt := 92) dX12_ruleFor_81 (by decide) ?_
              refine x_lv [(6, vI z88), (7, vJ z87), (10, vJ z118), (9, vI z86), (0, .ref (ad 0)), (1, vI x1), (2, vI x2), (3, vI x3), (4, vI x4), (5, vI x5)] [3, 2, 0, 1, 4, 5, 6, 7, 8, 9] rfl ?_
              exact jn122 (z88, z87) ⟨⟨by omega, by omega⟩, ⟨by omega, by omega⟩, hF⟩
      · replace hF := hF.to (if_neg (fun hh => hh hc8))
        refine x_ldc2 C.1 (n := -1) wq_X12_345 dX12_ruleFor_31 ?_
        exact x_lret (S := xS) (post := (fun a (u : xS) => MS G u ∧ FBm 65282031152678155065491456 V u.1 ∧ (f_m_ruleFor x1 x2 x3 x4 x5 V J Rr) (a, u))) (w1 := (fun u : xS => MW cy ad u.1 u.2.1 u.2.2)) (a := (-1)) C hr rfl dX12_ruleFor_34 (by decide) (V1, J, Rr) rfl ⟨⟨hI1, hJ, hR⟩, hB1, hF _ rfl⟩
theorem dX12_movesOut_0 : decode cX12_movesOut 0 = .ok (.aload_n 0, 1) := by decide +kernel
theorem dX12_movesOut_1 : decode cX12_movesOut 1 = .ok (.iload_n 1, 1) := by decide +kernel
theorem dX12_movesOut_2 : decode cX12_movesOut 2 = .ok (.iload_n 2, 1) := by decide +kernel
theorem dX12_movesOut_3 : decode cX12_movesOut 3 = .ok (.iload_n 3, 1) := by decide +kernel
theorem dX12_movesOut_4 : decode cX12_movesOut 4 = .ok (.invokevirtual 342, 3) := by decide +kernel
theorem dX12_movesOut_7 : decode cX12_movesOut 7 = .ok (.ifCond .eq 13, 3) := by decide +kernel
theorem dX12_movesOut_10 : decode cX12_movesOut 10 = .ok (.iload 4, 2) := by decide +kernel
theorem dX12_movesOut_12 : decode cX12_movesOut 12 = .ok (.iconst 0, 1) := by decide +kernel
theorem dX12_movesOut_13 : decode cX12_movesOut 13 = .ok (.iconst 1, 1) := by decide +kernel
theorem dX12_movesOut_14 : decode cX12_movesOut 14 = .ok (.invokestatic 126, 3) := by decide +kernel
theorem dX12_movesOut_17 : decode cX12_movesOut 17 = .ok (.ifCond .ne 7, 3) := by decide +kernel
theorem dX12_movesOut_20 : decode cX12_movesOut 20 = .ok (.ldc2_w 345, 3) := by decide +kernel
theorem dX12_movesOut_23 : decode cX12_movesOut 23 = .ok (.lreturn, 1) := by decide +kernel
theorem dX12_movesOut_24 : decode cX12_movesOut 24 = .ok (.iconst (-1), 1) := by decide +kernel
theorem dX12_movesOut_25 : decode cX12_movesOut 25 = .ok (.istore 5, 2) := by decide +kernel
theorem dX12_movesOut_27 : decode cX12_movesOut 27 = .ok (.lconst 0, 1) := by decide +kernel
theorem dX12_movesOut_28 : decode cX12_movesOut 28 = .ok (.lstore 6, 2) := by decide +kernel
theorem dX12_movesOut_30 : decode cX12_movesOut 30 = .ok (.iconst 0, 1) := by decide +kernel
theorem dX12_movesOut_31 : decode cX12_movesOut 31 = .ok (.istore 8, 2) := by decide +kernel
theorem dX12_movesOut_33 : decode cX12_movesOut 33 = .ok (.iload 8, 2) := by decide +kernel
theorem dX12_movesOut_35 : decode cX12_movesOut 35 = .ok (.iload_n 3, 1) := by decide +kernel
theorem dX12_movesOut_36 : decode cX12_movesOut 36 = .ok (.if_icmp .ge 95, 3) := by decide +kernel
theorem dX12_movesOut_39 : decode cX12_movesOut 39 = .ok (.iconst 0, 1) := by decide +kernel
theorem dX12_movesOut_40 : decode cX12_movesOut 40 = .ok (.istore 9, 2) := by decide +kernel
theorem dX12_movesOut_42 : decode cX12_movesOut 42 = .ok (.iload 9, 2) := by decide +kernel
theorem dX12_movesOut_44 : decode cX12_movesOut 44 = .ok (.iload_n 3, 1) := by decide +kernel
theorem dX12_movesOut_45 : decode cX12_movesOut 45 = .ok (.if_icmp .ge 42, 3) := by decide +kernel
theorem dX12_movesOut_48 : decode cX12_movesOut 48 = .ok (.aload_n 0, 1) := by decide +kernel
theorem dX12_movesOut_49 : decode cX12_movesOut 49 = .ok (.getfield 71, 3) := by decide +kernel
theorem dX12_movesOut_52 : decode cX12_movesOut 52 = .ok (.iload 9, 2) := by decide +kernel
theorem dX12_movesOut_54 : decode cX12_movesOut 54 = .ok (.iload 9, 2) := by decide +kernel
theorem dX12_movesOut_56 : decode cX12_movesOut 56 = .ok (.iload 8, 2) := by decide +kernel
theorem dX12_movesOut_58 : decode cX12_movesOut 58 = .ok (.if_icmp .ne 7, 3) := by decide +kernel
theorem dX12_movesOut_61 : decode cX12_movesOut 61 = .ok (.iconst 0, 1) := by decide +kernel
theorem dX12_movesOut_62 : decode cX12_movesOut 62 = .ok (.goto 18, 3) := by decide +kernel
theorem dX12_movesOut_65 : decode cX12_movesOut 65 = .ok (.aload_n 0, 1) := by decide +kernel
theorem dX12_movesOut_66 : decode cX12_movesOut 66 = .ok (.getfield 7, 3) := by decide +kernel
theorem dX12_movesOut_69 : decode cX12_movesOut 69 = .ok (.bipush 52, 2) := by decide +kernel
theorem dX12_movesOut_71 : decode cX12_movesOut 71 = .ok (.aload_n 0, 1) := by decide +kernel
theorem dX12_movesOut_72 : decode cX12_movesOut 72 = .ok (.getfield 68, 3) := by decide +kernel
theorem dX12_movesOut_75 : decode cX12_movesOut 75 = .ok (.iload 9, 2) := by decide +kernel
theorem dX12_movesOut_77 : decode cX12_movesOut 77 = .ok (.iaload, 1) := by decide +kernel
theorem dX12_movesOut_78 : decode cX12_movesOut 78 = .ok (.iadd, 1) := by decide +kernel
theorem dX12_movesOut_79 : decode cX12_movesOut 79 = .ok (.iaload, 1) := by decide +kernel
theorem dX12_movesOut_80 : decode cX12_movesOut 80 = .ok (.iastore, 1) := by decide +kernel
theorem dX12_movesOut_81 : decode cX12_movesOut 81 = .ok (.iinc 9 1, 3) := by decide +kernel
theorem dX12_movesOut_84 : decode cX12_movesOut 84 = .ok (.goto (-42), 3) := by decide +kernel
theorem dX12_movesOut_87 : decode cX12_movesOut 87 = .ok (.aload_n 0, 1) := by decide +kernel
theorem dX12_movesOut_88 : decode cX12_movesOut 88 = .ok (.iload_n 2, 1) := by decide +kernel
theorem dX12_movesOut_89 : decode cX12_movesOut 89 = .ok (.iload_n 3, 1) := by decide +kernel
theorem dX12_movesOut_90 : decode cX12_movesOut 90 = .ok (.invokevirtual 347, 3) := by decide +kernel
theorem dX12_movesOut_93 : decode cX12_movesOut 93 = .ok (.lstore 9, 2) := by decide +kernel
theorem dX12_movesOut_95 : decode cX12_movesOut 95 = .ok (.iload 5, 2) := by decide +kernel
theorem dX12_movesOut_97 : decode cX12_movesOut 97 = .ok (.iconst (-1), 1) := by decide +kernel
theorem dX12_movesOut_98 : decode cX12_movesOut 98 = .ok (.if_icmp .eq 14, 3) := by decide +kernel
theorem dX12_movesOut_101 : decode cX12_movesOut 101 = .ok (.lload 9, 2) := by decide +kernel
theorem dX12_movesOut_103 : decode cX12_movesOut 103 = .ok (.lload 6, 2) := by decide +kernel
theorem dX12_movesOut_105 : decode cX12_movesOut 105 = .ok (.lcmp, 1) := by decide +kernel
theorem dX12_movesOut_106 : decode cX12_movesOut 106 = .ok (.ifCond .lt 6, 3) := by decide +kernel
theorem dX12_movesOut_109 : decode cX12_movesOut 109 = .ok (.goto 16, 3) := by decide +kernel
theorem dX12_movesOut_112 : decode cX12_movesOut 112 = .ok (.lload 9, 2) := by decide +kernel
theorem dX12_movesOut_114 : decode cX12_movesOut 114 = .ok (.lstore 6, 2) := by decide +kernel
theorem dX12_movesOut_116 : decode cX12_movesOut 116 = .ok (.aload_n 0, 1) := by decide +kernel
theorem dX12_movesOut_117 : decode cX12_movesOut 117 = .ok (.getfield 68, 3) := by decide +kernel
theorem dX12_movesOut_120 : decode cX12_movesOut 120 = .ok (.iload 8, 2) := by decide +kernel
theorem dX12_movesOut_122 : decode cX12_movesOut 122 = .ok (.iaload, 1) := by decide +kernel
theorem dX12_movesOut_123 : decode cX12_movesOut 123 = .ok (.istore 5, 2) := by decide +kernel
theorem dX12_movesOut_125 : decode cX12_movesOut 125 = .ok (.iinc 8 1, 3) := by decide +kernel
theorem dX12_movesOut_128 : decode cX12_movesOut 128 = .ok (.goto (-95), 3) := by decide +kernel
theorem dX12_movesOut_131 : decode cX12_movesOut 131 = .ok (.iload 4, 2) := by decide +kernel
theorem dX12_movesOut_133 : decode cX12_movesOut 133 = .ok (.ifCond .ne 9, 3) := by decide +kernel
theorem dX12_movesOut_136 : decode cX12_movesOut 136 = .ok (.iload 5, 2) := by decide +kernel
theorem dX12_movesOut_138 : decode cX12_movesOut 138 = .ok (.i2l, 1) := by decide +kernel
theorem dX12_movesOut_139 : decode cX12_movesOut 139 = .ok (.goto 5, 3) := by decide +kernel
theorem dX12_movesOut_142 : decode cX12_movesOut 142 = .ok (.lload 6, 2) := by decide +kernel
theorem dX12_movesOut_144 : decode cX12_movesOut 144 = .ok (.lreturn, 1) := by decide +kernel
set_option maxRecDepth 100000 in
def f_m_movesOut (x1 : Int) (x2 : Int) (x3 : Int) (x4 : Int) (V : Nat → Nat → Int) (J : Nat → Nat → Int) (Rr : Nat → Nat → Nat) : (Int × xS) → Prop :=
  calVM 58028439341502226155700224 V (f_m_canGo x1 x2 x3 V J Rr) fun z1 V1 => fct (0 ≤ z1 ∧ z1 ≤ 1) <| (if z1 = 0 then rtn ((-1), (V1, J, Rr)) else calR (f_m_in x4 0 1) fun z4 => fct (0 ≤ z4 ∧ z4 ≤ 1) <| (if ¬ z4 = 0 then lop6 (5) (fun rc1104 (z1101 : Int) (z1102 : Int) (z1103 : Int) (V1104 : Nat → Nat → Int) (J1104 : Nat → Nat → Int) (R1104 : Nat → Nat → Nat) => (if x3 ≤ z1101 then (if ¬ x4 = 0 then rtn (z1102, (V1104, J1104, R1104)) else rtn (z1103, (V1104, J1104, R1104))) else lop2 (5) (fun rc1700 (z1699 : Int) (V1700 : Nat → Nat → Int) => (if x3 ≤ z1699 then calSM 7253591811175922467340288 V1700 (f_m_goesThrough x2 x3 V1700 J1104 R1104) fun z1740 V1740 J1740 R1740 => jnk (fun (z1745 : Int) (z1746 : Int) => rc1104 (z1101 + 1) z1746 z1745 V1740 J1740 R1740) fun jf1747 => (if z1103 = (-1) then rdb (V1740 20 z1101.toNat) fun z1749 => fct (0 ≤ z1749 ∧ z1749 ≤ 7) <| jf1747 z1749 z1740 else (if (lcI z1740 z1102) < 0 then rdb (V1740 20 z1101.toNat) fun z1752 => fct (0 ≤ z1752 ∧ z1752 ≤ 7) <| jf1747 z1752 z1740 else jf1747 z1103 z1102)) else jnk (fun (z1755 : Int) => rdb (up2 V1700 21 z1699.toNat z1755) fun V1757 => rc1700 (z1699 + 1) V1757) fun jf1756 => (if ¬ z1699 = z1101 then rdb (V1700 20 z1699.toNat) fun z1759 => fct (0 ≤ z1759 ∧ z1759 ≤ 7) <| rdb (V1700 1 ((z1759 + 52).toNat)) fun z1760 => jf1756 z1760 else jf1756 0))) 0 V1104)) 0 0 ((-1)) V1 J Rr else rtn ((-1), (V1, J, Rr))))
set_option maxHeartbeats 8000000 in
set_option maxRecDepth 100000 in
theorem m_movesOut (l : Launch) (D : va_G) (cy : Nat → ClassId) (ad : Nat → Nat) (G : Nat → Nat → Int) (V J : Nat → Nat → Int) (Rr : Nat → Nat → Nat) (hI : MI G V) (hJ : VJ J) (hR : MR Rr) (x1 : Int) (bx1 : -2147483648 ≤ x1 ∧ x1 ≤ 2147483647) (x2 : Int) (bx2 : -2147483648 ≤ x2 ∧ x2 ≤ 2147483647) (x3 : Int) (bx3 : -2147483648 ≤ x3 ∧ x3 ≤ 2147483647) (x4 : Int) (bx4 : -2147483648 ≤ x4 ∧ x4 ≤ 2147483647) (hW : WP G) : xMl l D (xTY cy) yX12_movesOut cX12_movesOut 11 (some .long) 7 160 0 0 [.ref (ad 0), vI x1, vI x2, vI x3, vI x4] (MW cy ad V J Rr) (fun u : xS => MW cy ad u.1 u.2.1 u.2.2) (fun a (u : xS) => MS G u ∧ FBm 65282031152678148623040512 V u.1 ∧ (f_m_movesOut x1 x2 x3 x4 V J Rr) (a, u)) := by
  refine xMl.mk (lv0 := [(0, .ref (ad 0)), (1, vI x1), (2, vI x2), (3, vI x3), (4, vI x4)]) (by decide) rfl (Nat.le_of_ble_eq_true rfl) (fun p e s m below meth c A C hr hnm hAe => ?_)
  have C : xC2 p s m _ meth c D A s.heap 11 cX12_movesOut RX12 (xTY cy) := C
  have hB : FBm 65282031152678148623040512 V V := FBm.rf _ _
  have hF := Imp.of_eq (f_m_movesOut.eq_def x1 x2 x3 x4 V J Rr)
  refine x_aload_n C.1 dX12_movesOut_0 0 rfl ?_
  refine x_iload_n C.1 dX12_movesOut_1 1 rfl ?_
  refine x_iload_n C.1 dX12_movesOut_2 2 rfl ?_
  refine x_iload_n C.1 dX12_movesOut_3 3 rfl ?_
  refine x_callVi C (As := [vI x1, vI x2, vI x3]) (rest := []) 0 (xw_at (N := 33) (i := 0) (by decide) rfl) vc_X12 (m_canGo l D cy ad G V J Rr hI hJ hR x1 ⟨by omega, by omega⟩ x2 ⟨by omega, by omega⟩ x3 ⟨by omega, by omega⟩) (l1 := []) (l2 := []) (List.append_nil _).symm (w2 := fun u : Nat → Nat → Int => MW cy ad u J Rr) (fun _ => List.append_nil _) rfl wm_yX12_canGo wn_X12 wl_X12_342 wi_yX12_canGo we_yX12_canGo hd_yX12_canGo rfl ⟨Nat.le_of_ble_eq_true rfl, Nat.le_of_ble_eq_true rfl⟩ (Nat.le_of_ble_eq_true rfl) ⟨Nat.le_of_ble_eq_true rfl, Nat.le_of_ble_eq_true rfl⟩ dX12_movesOut_4 (fun z1 V1 bz1 h1 => ?_)
  obtain ⟨hI1, bq1, hx1_0, hBc1, hFc1⟩ := h1
  replace hF := calVM_i hF hFc1 hBc1
  replace hF := hF.fc bq1
  have hB1 := hB.tr hBc1 (m := 58028439341502226155700224) rfl
  refine x_if_eq C.1 (tgt := 20) dX12_movesOut_7 (by decide) (by omega) (fun hc2 => ?_) (fun hc2 => ?_)
  · replace hF := hF.to (if_pos hc2)
    refine x_ldc2 C.1 (n := -1) wq_X12_345 dX12_movesOut_20 ?_
    exact x_lret (S := xS) (post := (fun a (u : xS) => MS G u ∧ FBm 65282031152678148623040512 V u.1 ∧ (f_m_movesOut x1 x2 x3 x4 V J Rr) (a, u))) (w1 := (fun u : xS => MW cy ad u.1 u.2.1 u.2.2)) (a := (-1)) C hr rfl dX12_movesOut_23 (by decide) (V1, J, Rr) rfl ⟨⟨hI1, hJ, hR⟩, hB1, hF _ rfl⟩
  · replace hF := hF.to (if_neg hc2)
    have hon3 := Sp.on hx1_0 (by omega)
    refine x_iload C.1 dX12_movesOut_10 4 rfl ?_
    refine x_iconst C.1 (n := 0) dX12_movesOut_12 ?_
    refine x_iconst C.1 (n := 1) dX12_movesOut_13 ?_
    refine x_callSi C (As := [vI x4, vI 0, vI 1]) (rest := []) (m_in l D cy x4 ⟨by omega, by omega⟩ 0 ⟨by decide, by decide⟩ 1 ⟨by decide, by decide⟩) (l1 := []) (l2 := _) rfl (w2 := fun _ => _) (fun _ => rfl) rfl wm_yX12_in wn_X12 wl_X12_126 wi_yX12_in hd_yX12_in rfl ⟨Nat.le_of_ble_eq_true rfl, Nat.le_of_ble_eq_true rfl⟩ (Nat.le_of_ble_eq_true rfl) ⟨Nat.le_of_ble_eq_true rfl, Nat.le_of_ble_eq_true rfl⟩ dX12_movesOut_14 (fun z4 u4 bz4 h4 => ?_)
    obtain ⟨bq4, hx4_0, hFc4⟩ := h4
    replace hF := calR_i hF hFc4
    replace hF := hF.fc bq4
    refine x_if_ne C.1 (tgt := 24) dX12_movesOut_17 (by decide) (by omega) (fun hc5 => ?_) (fun hc5 => ?_)
    · replace hF := hF.to (if_pos hc5)
      have hon6 := Sq.on hx4_0 (by omega)
      refine x_iconst C.1 (n := -1) dX12_movesOut_24 ?_
      refine x_istore C.1 (lv' := [(5, vI (-1)), (0, .ref (ad 0)), (1, vI x1), (2, vI x2), (3, vI x3), (4, vI x4)]) dX12_movesOut_25 (by decide) rfl ?_
      refine x_lconst0 C.1 dX12_movesOut_27 ?_
      refine x_lstore C.1 (lv' := [(6, vJ 0), (5, vI (-1)), (0, .ref (ad 0)), (1, vI x1), (2, vI x2), (3, vI x3), (4, vI x4)]) dX12_movesOut_28 (by decide) rfl ?_
      refine x_iconst C.1 (n := 0) dX12_movesOut_30 ?_
      refine x_istore C.1 (lv' := [(8, vI 0), (6, vJ 0), (5, vI (-1)), (0, .ref (ad 0)), (1, vI x1), (2, vI x2), (3, vI x3), (4, vI x4)]) dX12_movesOut_31 (by decide) rfl ?_
      obtain ⟨bd1104, hbd1104, hF⟩ := lop6_ex hF
      refine x_loop (I := fun x : Int × Int × Int × (Nat → Nat → Int) × (Nat → Nat → Int) × (Nat → Nat → Nat) => match x with | (z1101, z1102, z1103, V1104, J1104, R1104) => (0 ≤ z1101 ∧ z1101 ≤ 3) ∧ (-9223372036854775808 ≤ z1102 ∧ z1102 ≤ 9223372036854775807) ∧ (-1 ≤ z1103 ∧ z1103 ≤ 7) ∧ MI G V1104 ∧ FBm 65282031152678148623040512 V V1104 ∧ VJ J1104 ∧ MR R1104 ∧ (∃ nf : Nat, (4 - z1101).toNat < nf ∧ Imp (lop6 nf bd1104 z1101 z1102 z1103 V1104 J1104 R1104) (f_m_movesOut x1 x2 x3 x4 V J Rr))) (μ := fun x : Int × Int × Int × (Nat → Nat → Int) × (Nat → Nat → Int) × (Nat → Nat → Nat) => match x with | (z1101, z1102, z1103, V1104, J1104, R1104) => (4 - z1101).toNat) (wsf := fun x : Int × Int × Int × (Nat → Nat → Int) × (Nat → Nat → Int) × (Nat → Nat → Nat) => match x with | (z1101, z1102, z1103, V1104, J1104, R1104) => MW cy ad V1104 J1104 R1104) (lvf := fun x : Int × Int × Int × (Nat → Nat → Int) × (Nat → Nat → Int) × (Nat → Nat → Nat) => match x with | (z1101, z1102, z1103, V1104, J1104, R1104) => [(8, vI z1101), (6, vJ z1102), (5, vI z1103), (0, .ref (ad 0)), (1, vI x1), (2, vI x2), (3, vI x3), (4, vI x4)]) (fun x hI1104x ih1104 => ?_) (0, 0, (-1), V1, J, Rr) ⟨⟨by decide, by decide⟩, ⟨by decide, by decide⟩, ⟨by decide, by decide⟩, hI1, hB1, hJ, hR, ⟨_, (by omega), hF⟩⟩ rfl rfl
      obtain ⟨z1101, z1102, z1103, V1104, J1104, R1104⟩ := x
      obtain ⟨bz1101, bz1102, bz1103, hI1104, hB1104, hJ1104, hR1104, nf1104, hn1104, hF⟩ := hI1104x
      try dsimp only
      obtain ⟨nf1104, rfl⟩ : ∃ mm, nf1104 = mm + 1 := ⟨nf1104 - 1, (Nat.succ_pred_eq_of_pos (Nat.lt_of_le_of_lt (Nat.zero_le _) hn1104)).symm⟩
      replace hF := hF.to (lop6_s hbd1104)
      refine x_iload C.1 dX12_movesOut_33 0 rfl ?_
      refine x_iload_n C.1 dX12_movesOut_35 6 rfl ?_
      refine x_icmp_ge C.1 (tgt := 131) dX12_movesOut_36 (by decide) (by omega) (by omega) (fun hc1596 => ?_) (fun hc1596 => ?_)
      · replace hF := hF.to (if_pos hc1596)
        refine x_iload C.1 dX12_movesOut_131 7 rfl ?_
        refine x_if_ne C.1 (tgt := 142) dX12_movesOut_133 (by decide) (by omega) (fun hc1597 => ?_) (fun hc1597 => ?_)
        · replace hF := hF.to (if_pos hc1597)
          refine x_lload C.1 dX12_movesOut_142 1 rfl ?_
          exact x_lret (S := xS) (post := (fun a (u : xS) => MS G u ∧ FBm 65282031152678148623040512 V u.1 ∧ (f_m_movesOut x1 x2 x3 x4 V J Rr) (a, u))) (w1 := (fun u : xS => MW cy ad u.1 u.2.1 u.2.2)) (a := z1102) C hr rfl dX12_movesOut_144 (by omega) (V1104, J1104, R1104) rfl ⟨⟨hI1104, hJ1104, hR1104⟩, hB1104, hF _ rfl⟩
        · replace hF := hF.to (if_neg (fun hh => hh hc1597))
          refine x_iload C.1 dX12_movesOut_136 2 rfl ?_
          refine x_i2l C.1 dX12_movesOut_138 (by omega) ?_
          refine x_goto C.1 (tgt := 144) dX12_movesOut_139 (by decide) ?_
          exact x_lret (S := xS) (post := (fun a (u : xS) => MS G u ∧ FBm 65282031152678148623040512 V u.1 ∧ (f_m_movesOut x1 x2 x3 x4 V J Rr) (a, u))) (w1 := (fun u : xS => MW cy ad u.1 u.2.1 u.2.2)) (a := z1103) C hr rfl dX12_movesOut_144 (by omega) (V1104, J1104, R1104) rfl ⟨⟨hI1104, hJ1104, hR1104⟩, hB1104, hF _ rfl⟩
      · replace hF := hF.to (if_neg hc1596)
        refine x_iconst C.1 (n := 0) dX12_movesOut_39 ?_
        refine x_istore C.1 (lv' := [(9, vI 0), (8, vI z1101), (6, vJ z1102), (5, vI z1103), (0, .ref (ad 0)), (1, vI x1), (2, vI x2), (3, vI x3), (4, vI x4)]) dX12_movesOut_40 (by decide) rfl ?_
        obtain ⟨bd1700, hbd1700, hF⟩ := lop2_ex hF
        refine x_loop (I := fun x : Int × (Nat → Nat → Int) => match x with | (z1699, V1700) => (0 ≤ z1699 ∧ z1699 ≤ 3) ∧ MI G V1700 ∧ FBm 65282031152678148623040512 V V1700 ∧ (∃ nf : Nat, (4 - z1699).toNat < nf ∧ Imp (lop2 nf bd1700 z1699 V1700) (f_m_movesOut x1 x2 x3 x4 V J Rr))) (μ := fun x : Int × (Nat → Nat → Int) => match x with | (z1699, V1700) => (4 - z1699).toNat) (wsf := fun x : Int × (Nat → Nat → Int) => match x with | (z1699, V1700) => MW cy ad V1700 J1104 R1104) (lvf := fun x : Int × (Nat → Nat → Int) => match x with | (z1699, V1700) => [(9, vI z1699), (8, vI z1101), (6, vJ z1102), (5, vI z1103), (0, .ref (ad 0)), (1, vI x1), (2, vI x2), (3, vI x3), (4, vI x4)]) (fun x hI1700x ih1700 => ?_) (0, V1104) ⟨⟨by decide, by decide⟩, hI1104, hB1104, ⟨_, (by omega), hF⟩⟩ rfl rfl
        obtain ⟨z1699, V1700⟩ := x
        obtain ⟨bz1699, hI1700, hB1700, nf1700, hn1700, hF⟩ := hI1700x
        try dsimp only
        obtain ⟨nf1700, rfl⟩ : ∃ mm, nf1700 = mm + 1 := ⟨nf1700 - 1, (Nat.succ_pred_eq_of_pos (Nat.lt_of_le_of_lt (Nat.zero_le _) hn1700)).symm⟩
        replace hF := hF.to (lop2_s hbd1700)
        refine x_iload C.1 dX12_movesOut_42 0 rfl ?_
        refine x_iload_n C.1 dX12_movesOut_44 7 rfl ?_
        refine x_icmp_ge C.1 (tgt := 87) dX12_movesOut_45 (by decide) (by omega) (by omega) (fun hc1739 => ?_) (fun hc1739 => ?_)
        · replace hF := hF.to (if_pos hc1739)
          refine x_aload_n C.1 dX12_movesOut_87 4 rfl ?_
          refine x_iload_n C.1 dX12_movesOut_88 6 rfl ?_
          refine x_iload_n C.1 dX12_movesOut_89 7 rfl ?_
          refine x_callVl C (As := [vI x2, vI x3]) (rest := []) 0 (xw_at (N := 33) (i := 0) (by decide) rfl) vc_X12 (m_goesThrough l D cy ad G V1700 J1104 R1104 hI1700 hJ1104 hR1104 x2 ⟨by omega, by omega⟩ x3 ⟨by omega, by omega⟩ hW (by omega)) (l1 := []) (l2 := []) (List.append_nil _).symm (w2 := fun u : xS => MW cy ad u.1 u.2.1 u.2.2) (fun _ => List.append_nil _) rfl wm_yX12_goesThrough wn_X12 wl_X12_347 wi_yX12_goesThrough we_yX12_goesThrough hd_yX12_goesThrough rfl ⟨Nat.le_of_ble_eq_true rfl, Nat.le_of_ble_eq_true rfl⟩ (Nat.le_of_ble_eq_true rfl) ⟨Nat.le_of_ble_eq_true rfl, Nat.le_of_ble_eq_true rfl⟩ dX12_movesOut_90 (fun z1740 u1740 bz1740 h1740 => ?_)
          obtain ⟨V1740, J1740, R1740⟩ := u1740
          obtain ⟨hS1740, hBc1740, hFc1740⟩ := h1740
          replace hF := calSM_i hF hFc1740 hBc1740
          have hB1740 := hB1700.tr hBc1740 (m := 7253591811175922467340288) rfl
          obtain ⟨hI1740, hJ1740, hR1740⟩ := hS1740
          dsimp only at hI1740 hJ1740 hR1740 ⊢
          refine x_lstore C.1 (lv' := [(9, vJ z1740), (8, vI z1101), (6, vJ z1102), (5, vI z1103), (0, .ref (ad 0)), (1, vI x1), (2, vI x2), (3, vI x3), (4, vI x4)]) dX12_movesOut_93 (by decide) rfl ?_
          refine x_iload C.1 dX12_movesOut_95 3 rfl ?_
          refine x_iconst C.1 (n := -1) dX12_movesOut_97 ?_
          obtain ⟨jf1747, hjf1747, hF⟩ := jn_ex hF
          refine x_join (I := fun x : Int × Int => match x with | (z1745, z1746) => (0 ≤ z1745 ∧ z1745 ≤ 7) ∧ (-9223372036854775808 ≤ z1746 ∧ z1746 ≤ 9223372036854775807) ∧ Imp (jf1747 z1745 z1746) (f_m_movesOut x1 x2 x3 x4 V J Rr)) (wsf := fun x : Int × Int => match x with | (z1745, z1746) => MW cy ad V1740 J1740 R1740) (lvf := fun x : Int × Int => match x with | (z1745, z1746) => [(5, vI z1745), (6, vJ z1746), (9, vJ z1740), (8, vI z1101), (0, .ref (ad 0)), (1, vI x1), (2, vI x2), (3, vI x3), (4, vI x4)]) (stf := fun x : Int × Int => match x with | (z1745, z1746) => []) 125 (fun x hI1747x => ?_) (fun jn1747 => ?_)
          · obtain ⟨z1745, z1746⟩ := x
            obtain ⟨bz1745, bz1746, hF⟩ := hI1747x
            try dsimp only
            replace hF := hF.to (jn_s2 hjf1747)
            refine x_iinc C.1 (v := z1101 + 1) (lv' := [(8, vI (z1101 + 1)), (5, vI z1745), (6, vJ z1746), (9, vJ z1740), (0, .ref (ad 0)), (1, vI x1), (2, vI x2), (3, vI x3), (4, vI x4)]) (by omega) dX12_movesOut_125 3 rfl (by decide) rfl ?_
            refine x_goto C.1 (tgt := 33) dX12_movesOut_128 (by decide) ?_
            refine x_lv [(8, vI (z1101 + 1)), (6, vJ z1746), (5, vI z1745), (0, .ref (ad 0)), (1, vI x1), (2, vI x2), (3, vI x3), (4, vI x4)] [0, 2, 1, 4, 5, 6, 7, 8] rfl ?_
            have hmu1104 : (4 - (z1101 + 1)).toNat < (4 - z1101).toNat := (by omega)
            exact ih1104 (z1101 + 1, z1746, z1745, V1740, J1740, R1740) ⟨⟨by omega, by omega⟩, ⟨by omega, by omega⟩, ⟨by omega, by omega⟩, hI1740, hB1740, hJ1740, hR1740, ⟨nf1104, Nat.lt_of_lt_of_le hmu1104 (Nat.le_of_lt_succ hn1104), hF⟩⟩ hmu1104
          · refine x_icmp_eq C.1 (tgt := 112) dX12_movesOut_98 (by decide) (by omega) (by decide) (fun hc1748 => ?_) (fun hc1748 => ?_)
            · replace hF := hF.to (if_pos hc1748)
              refine x_lload C.1 dX12_movesOut_112 0 rfl ?_
              refine x_lstore C.1 (lv' := [(6, vJ z1740), (9, vJ z1740), (8, vI z1101), (5, vI z1103), (0, .ref (ad 0)), (1, vI x1), (2, vI x2), (3, vI x3), (4, vI x4)]) dX12_movesOut_114 (by decide) rfl ?_
              refine x_aload_n C.1 dX12_movesOut_116 4 rfl ?_
              refine x_getA C (N := 33) (i := 0) (by decide) rfl vc_X12 wx_X12 35 (by decide) wf_X12_68 (a := 20) rfl dX12_movesOut_117 ?_
              refine x_iload C.1 dX12_movesOut_120 2 rfl ?_
              obtain ⟨z1749, ez1749, bz1749⟩ := hI1740.rd 20 z1101.toNat (x := 0) (y := 7) rfl
              replace hF := hF.to (rdb_e (z := z1749) ez1749)
              replace hF := hF.fc bz1749
              refine x_iald C (N := 33) (i := 20) (q := z1101) (by decide) rfl (by omega) (by decide) dX12_movesOut_122 (a := z1749) ez1749 ?_
              refine x_istore C.1 (lv' := [(5, vI z1749), (6, vJ z1740), (9, vJ z1740), (8, vI z1101), (0, .ref (ad 0)), (1, vI x1), (2, vI x2), (3, vI x3), (4, vI x4)]) dX12_movesOut_123 (by decide) rfl ?_
              exact jn1747 (z1749, z1740) ⟨⟨by omega, by omega⟩, ⟨by omega, by omega⟩, hF⟩
            · replace hF := hF.to (if_neg hc1748)
              refine x_lload C.1 dX12_movesOut_101 0 rfl ?_
              refine x_lload C.1 dX12_movesOut_103 2 rfl ?_
              refine x_lcmp C.1 rfl dX12_movesOut_105 (by omega) (by omega) ?_
              have bz1750 := lcI_r2 z1740 z1102
              refine x_if_lt C.1 (tgt := 112) dX12_movesOut_106 (by decide) (by omega) (fun hc1751 => ?_) (fun hc1751 => ?_)
              · replace hF := hF.to (if_pos hc1751)
                rw [lcI_lt] at hc1751
                refine x_lload C.1 dX12_movesOut_112 0 rfl ?_
                refine x_lstore C.1 (lv' := [(6, vJ z1740), (9, vJ z1740), (8, vI z1101), (5, vI z1103), (0, .ref (ad 0)), (1, vI x1), (2, vI x2), (3, vI x3), (4, vI x4)]) dX12_movesOut_114 (by decide) rfl ?_
                refine x_aload_n C.1 dX12_movesOut_116 4 rfl ?_
                refine x_getA C (N := 33) (i := 0) (by decide) rfl vc_X12 wx_X12 35 (by decide) wf_X12_68 (a := 20) rfl dX12_movesOut_117 ?_
                refine x_iload C.1 dX12_movesOut_120 2 rfl ?_
                obtain ⟨z1752, ez1752, bz1752⟩ := hI1740.rd 20 z1101.toNat (x := 0) (y := 7) rfl
                replace hF := hF.to (rdb_e (z := z1752) ez1752)
                replace hF := hF.fc bz1752
                refine x_iald C (N := 33) (i := 20) (q := z1101) (by decide) rfl (by omega) (by decide) dX12_movesOut_122 (a := z1752) ez1752 ?_
                refine x_istore C.1 (lv' := [(5, vI z1752), (6, vJ z1740), (9, vJ z1740), (8, vI z1101), (0, .ref (ad 0)), (1, vI x1), (2, vI x2), (3, vI x3), (4, vI x4)]) dX12_movesOut_123 (by decide) rfl ?_
                exact jn1747 (z1752, z1740) ⟨⟨by omega, by omega⟩, ⟨by omega, by omega⟩, hF⟩
              · replace hF := hF.to (if_neg hc1751)
                rw [lcI_lt] at hc1751
                refine x_goto C.1 (tgt := 125) dX12_movesOut_109 (by decide) ?_
                refine x_lv [(5, vI z1103), (6, vJ z1102), (9, vJ z1740), (8, vI z1101), (0, .ref (ad 0)), (1, vI x1), (2, vI x2), (3, vI x3), (4, vI x4)] [3, 2, 0, 1, 4, 5, 6, 7, 8] rfl ?_
                exact jn1747 (z1103, z1102) ⟨⟨by omega, by omega⟩, ⟨by omega, by omega⟩, hF⟩
        · replace hF := hF.to (if_neg hc1739)
          refine x_aload_n C.1 dX12_movesOut_48 4 rfl ?_
          refine x_getA C (N := 33) (i := 0) (by decide) rfl vc_X12 wx_X12 36 (by decide) wf_X12_71 (a := 21) rfl dX12_movesOut_49 ?_
          refine x_iload C.1 dX12_movesOut_52 0 rfl ?_
          refine x_iload C.1 dX12_movesOut_54 0 rfl ?_
          refine x_iload C.1 dX12_movesOut_56 1 rfl ?_
          obtain ⟨jf1756, hjf1756, hF⟩ := jn_ex hF
          refine x_join (I := fun z1755 : Int => (-2147483648 ≤ z1755 ∧ z1755 ≤ 2147483647) ∧ Imp (jf1756 z1755) (f_m_movesOut x1 x2 x3 x4 V J Rr)) (wsf := fun z1755 : Int => MW cy ad V1700 J1104 R1104) (lvf := fun z1755 : Int => [(9, vI z1699), (8, vI z1101), (6, vJ z1102), (5, vI z1103), (0, .ref (ad 0)), (1, vI x1), (2, vI x2), (3, vI x3), (4, vI x4)]) (stf := fun z1755 : Int => [vI z1755, vI z1699, .ref (ad 21)]) 80 (fun z1755 hI1756x => ?_) (fun jn1756 => ?_)
          · obtain ⟨bz1755, hF⟩ := hI1756x
            try dsimp only
            replace hF := hF.to (jn_s1 hjf1756)
            refine x_iast C (N := 33) (i := 21) (q := z1699) (a := z1755) (by decide) rfl (by omega) (by decide) dX12_movesOut_80 ?_
            refine x_gV ?_
            intro V1757 hV1757
            have hI1757 : MI G V1757 := hI1700.up hV1757 rfl (by omega) rfl (Or.inl (by decide))
            have hB1757 := hB1700.up hV1757 (by rw [mkey_r (by decide)]; rfl)
            replace hF := hF.to (rdb_e (z := V1757) hV1757.symm)
            refine x_iinc C.1 (v := z1699 + 1) (lv' := [(9, vI (z1699 + 1)), (8, vI z1101), (6, vJ z1102), (5, vI z1103), (0, .ref (ad 0)), (1, vI x1), (2, vI x2), (3, vI x3), (4, vI x4)]) (by omega) dX12_movesOut_81 0 rfl (by decide) rfl ?_
            refine x_goto C.1 (tgt := 42) dX12_movesOut_84 (by decide) ?_
            have hmu1700 : (4 - (z1699 + 1)).toNat < (4 - z1699).toNat := (by omega)
            exact ih1700 (z1699 + 1, V1757) ⟨⟨by omega, by omega⟩, hI1757, hB1757, ⟨nf1700, Nat.lt_of_lt_of_le hmu1700 (Nat.le_of_lt_succ hn1700), hF⟩⟩ hmu1700
          · refine x_icmp_ne C.1 (tgt := 65) dX12_movesOut_58 (by decide) (by omega) (by omega) (fun hc1758 => ?_) (fun hc1758 => ?_)
            · replace hF := hF.to (if_pos hc1758)
              refine x_aload_n C.1 dX12_movesOut_65 4 rfl ?_
              refine x_getA C (N := 33) (i := 0) (by decide) rfl vc_X12 wx_X12 0 (by decide) wf_X12_7 (a := 1) rfl dX12_movesOut_66 ?_
              refine x_bipush C.1 (n := 52) dX12_movesOut_69 ?_
              refine x_aload_n C.1 dX12_movesOut_71 4 rfl ?_
              refine x_getA C (N := 33) (i := 0) (by decide) rfl vc_X12 wx_X12 35 (by decide) wf_X12_68 (a := 20) rfl dX12_movesOut_72 ?_
              refine x_iload C.1 dX12_movesOut_75 0 rfl ?_
              obtain ⟨z1759, ez1759, bz1759⟩ := hI1700.rd 20 z1699.toNat (x := 0) (y := 7) rfl
              replace hF := hF.to (rdb_e (z := z1759) ez1759)
              replace hF := hF.fc bz1759
              refine x_iald C (N := 33) (i := 20) (q := z1699) (by decide) rfl (by omega) (by decide) dX12_movesOut_77 (a := z1759) ez1759 ?_
              refine x_iadd C.1 (v := z1759 + 52) (by omega) dX12_movesOut_78 ?_
              obtain ⟨z1760, ez1760, bz1760⟩ := hI1700.rd 1 ((z1759 + 52).toNat) (x := -2147483648) (y := 2147483647) (rgN_60 (Or.inl rfl) (by omega))
              replace hF := hF.to (rdb_e (z := z1760) ez1760)
              refine x_iald C (N := 33) (i := 1) (q := z1759 + 52) (by decide) rfl (by omega) (by decide) dX12_movesOut_79 (a := z1760) ez1760 ?_
              exact jn1756 z1760 ⟨⟨by omega, by omega⟩, hF⟩
            · replace hF := hF.to (if_neg (fun hh => hh hc1758))
              refine x_iconst C.1 (n := 0) dX12_movesOut_61 ?_
              refine x_goto C.1 (tgt := 80) dX12_movesOut_62 (by decide) ?_
              exact jn1756 0 ⟨⟨by decide, by decide⟩, hF⟩
    · replace hF := hF.to (if_neg (fun hh => hh hc5))
      refine x_ldc2 C.1 (n := -1) wq_X12_345 dX12_movesOut_20 ?_
      exact x_lret (S := xS) (post := (fun a (u : xS) => MS G u ∧ FBm 65282031152678148623040512 V u.1 ∧ (f_m_movesOut x1 x2 x3 x4 V J Rr) (a, u))) (w1 := (fun u : xS => MW cy ad u.1 u.2.1 u.2.2)) (a := (-1)) C hr rfl dX12_movesOut_23 (by decide) (V1, J, Rr) rfl ⟨⟨hI1, hJ, hR⟩, hB1, hF _ rfl⟩
