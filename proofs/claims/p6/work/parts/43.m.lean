theorem hd_yX12_has : yX12_has.cls ≠ "java/lang/invoke/MethodHandle" ∧ yX12_has.cls ≠ "java/lang/invoke/VarHandle" ∧ (parseMethodDescriptor yX12_has.desc).map (fun d => d.parameters.length) = some 2 := by decide +kernel
theorem dX12_isPlant_0 : decode cX12_isPlant 0 = .ok (.iload_n 1, 1) := by decide +kernel
theorem dX12_isPlant_1 : decode cX12_isPlant 1 = .ok (.ifCond .lt 26, 3) := by decide +kernel
theorem dX12_isPlant_4 : decode cX12_isPlant 4 = .ok (.iload_n 1, 1) := by decide +kernel
theorem dX12_isPlant_5 : decode cX12_isPlant 5 = .ok (.iconst 4, 1) := by decide +kernel
theorem dX12_isPlant_6 : decode cX12_isPlant 6 = .ok (.if_icmp .ge 21, 3) := by decide +kernel
theorem dX12_isPlant_9 : decode cX12_isPlant 9 = .ok (.aload_n 0, 1) := by decide +kernel
theorem dX12_isPlant_10 : decode cX12_isPlant 10 = .ok (.getfield 7, 3) := by decide +kernel
theorem dX12_isPlant_13 : decode cX12_isPlant 13 = .ok (.bipush 76, 2) := by decide +kernel
theorem dX12_isPlant_15 : decode cX12_isPlant 15 = .ok (.iaload, 1) := by decide +kernel
theorem dX12_isPlant_16 : decode cX12_isPlant 16 = .ok (.iload_n 1, 1) := by decide +kernel
theorem dX12_isPlant_17 : decode cX12_isPlant 17 = .ok (.invokestatic 118, 3) := by decide +kernel
theorem dX12_isPlant_20 : decode cX12_isPlant 20 = .ok (.ifCond .eq 7, 3) := by decide +kernel
theorem dX12_isPlant_23 : decode cX12_isPlant 23 = .ok (.iconst 1, 1) := by decide +kernel
theorem dX12_isPlant_24 : decode cX12_isPlant 24 = .ok (.goto 4, 3) := by decide +kernel
theorem dX12_isPlant_27 : decode cX12_isPlant 27 = .ok (.iconst 0, 1) := by decide +kernel
theorem dX12_isPlant_28 : decode cX12_isPlant 28 = .ok (.ireturn, 1) := by decide +kernel
set_option maxRecDepth 100000 in
def f_m_isPlant (x1 : Int) (V : Nat → Nat → Int) (J : Nat → Nat → Int) (Rr : Nat → Nat → Nat) : (Int) → Prop :=
  (if x1 < 0 then rtn 0 else (if 4 ≤ x1 then rtn 0 else rdb (V 1 76) fun z3 => calR (f_m_has z3 x1) fun z4 => fct (0 ≤ z4 ∧ z4 ≤ 1) <| (if z4 = 0 then rtn 0 else rtn 1)))
set_option maxHeartbeats 8000000 in
set_option maxRecDepth 100000 in
theorem m_isPlant (l : Launch) (D : va_G) (cy : Nat → ClassId) (ad : Nat → Nat) (G : Nat → Nat → Int) (V J : Nat → Nat → Int) (Rr : Nat → Nat → Nat) (hI : MI G V) (hJ : VJ J) (hR : MR Rr) (x1 : Int) (bx1 : -2147483648 ≤ x1 ∧ x1 ≤ 2147483647) : xMi l D (xTY cy) yX12_isPlant cX12_isPlant 2 (some .boolean) 1 21 0 0 [.ref (ad 0), vI x1] (MW cy ad V J Rr) (fun _ : Unit => MW cy ad V J Rr) (fun a (u : Unit) => Sp a ((0 ≤ x1 ∧ x1 ≤ 3)) ∧ (f_m_isPlant x1 V J Rr) a) := by
  refine xMi.mk (lv0 := [(0, .ref (ad 0)), (1, vI x1)]) (by decide) rfl (Nat.le_of_ble_eq_true rfl) (fun p e s m below meth c A C hr hnm hAe => ?_)
  have C : xC2 p s m _ meth c D A s.heap 2 cX12_isPlant RX12 (xTY cy) := C
  have hF := Imp.of_eq (f_m_isPlant.eq_def x1 V J Rr)
  refine x_iload_n C.1 dX12_isPlant_0 1 rfl ?_
  refine x_if_lt C.1 (tgt := 27) dX12_isPlant_1 (by decide) (by omega) (fun hc1 => ?_) (fun hc1 => ?_)
  · replace hF := hF.to (if_pos hc1)
    refine x_iconst C.1 (n := 0) dX12_isPlant_27 ?_
    exact x_zret (S := Unit) (post := (fun a (u : Unit) => Sp a ((0 ≤ x1 ∧ x1 ≤ 3)) ∧ (f_m_isPlant x1 V J Rr) a)) (w1 := (fun _ : Unit => MW cy ad V J Rr)) (a := 0) C hr rfl dX12_isPlant_28 (by decide) () rfl ⟨Or.inl rfl, hF _ rfl⟩
  · replace hF := hF.to (if_neg hc1)
    refine x_iload_n C.1 dX12_isPlant_4 1 rfl ?_
    refine x_iconst C.1 (n := 4) dX12_isPlant_5 ?_
    refine x_icmp_ge C.1 (tgt := 27) dX12_isPlant_6 (by decide) (by omega) (by decide) (fun hc2 => ?_) (fun hc2 => ?_)
    · replace hF := hF.to (if_pos hc2)
      refine x_iconst C.1 (n := 0) dX12_isPlant_27 ?_
      exact x_zret (S := Unit) (post := (fun a (u : Unit) => Sp a ((0 ≤ x1 ∧ x1 ≤ 3)) ∧ (f_m_isPlant x1 V J Rr) a)) (w1 := (fun _ : Unit => MW cy ad V J Rr)) (a := 0) C hr rfl dX12_isPlant_28 (by decide) () rfl ⟨Or.inl rfl, hF _ rfl⟩
    · replace hF := hF.to (if_neg hc2)
      refine x_aload_n C.1 dX12_isPlant_9 0 rfl ?_
      refine x_getA C (N := 33) (i := 0) (by decide) rfl vc_X12 wx_X12 0 (by decide) wf_X12_7 (a := 1) rfl dX12_isPlant_10 ?_
      refine x_bipush C.1 (n := 76) dX12_isPlant_13 ?_
      obtain ⟨z3, ez3, bz3⟩ := hI.rd 1 76 (x := -2147483648) (y := 2147483647) (rgN_81 (Or.inl rfl) (by decide))
      replace hF := hF.to (rdb_e (z := z3) ez3)
      refine x_iald C (N := 33) (i := 1) (q := 76) (by decide) rfl (by decide) (by decide) dX12_isPlant_15 (a := z3) ez3 ?_
      refine x_iload_n C.1 dX12_isPlant_16 1 rfl ?_
      refine x_callSi C (As := [vI z3, vI x1]) (rest := []) (m_has l D cy z3 ⟨by omega, by omega⟩ x1 ⟨by omega, by omega⟩) (l1 := []) (l2 := _) rfl (w2 := fun _ => _) (fun _ => rfl) rfl wm_yX12_has wn_X12 wl_X12_118 wi_yX12_has hd_yX12_has rfl ⟨Nat.le_of_ble_eq_true rfl, Nat.le_of_ble_eq_true rfl⟩ (Nat.le_of_ble_eq_true rfl) ⟨Nat.le_of_ble_eq_true rfl, Nat.le_of_ble_eq_true rfl⟩ dX12_isPlant_17 (fun z4 u4 bz4 h4 => ?_)
      obtain ⟨bq4, hx4_0, hFc4⟩ := h4
      replace hF := calR_i hF hFc4
      replace hF := hF.fc bq4
      refine x_if_eq C.1 (tgt := 27) dX12_isPlant_20 (by decide) (by omega) (fun hc5 => ?_) (fun hc5 => ?_)
      · replace hF := hF.to (if_pos hc5)
        refine x_iconst C.1 (n := 0) dX12_isPlant_27 ?_
        exact x_zret (S := Unit) (post := (fun a (u : Unit) => Sp a ((0 ≤ x1 ∧ x1 ≤ 3)) ∧ (f_m_isPlant x1 V J Rr) a)) (w1 := (fun _ : Unit => MW cy ad V J Rr)) (a := 0) C hr rfl dX12_isPlant_28 (by decide) () rfl ⟨Or.inl rfl, hF _ rfl⟩
      · replace hF := hF.to (if_neg hc5)
        have hon6 := Sq.on hx4_0 (by omega)
        refine x_iconst C.1 (n := 1) dX12_isPlant_23 ?_
        refine x_goto C.1 (tgt := 28) dX12_isPlant_24 (by decide) ?_
        exact x_zret (S := Unit) (post := (fun a (u : Unit) => Sp a ((0 ≤ x1 ∧ x1 ≤ 3)) ∧ (f_m_isPlant x1 V J Rr) a)) (w1 := (fun _ : Unit => MW cy ad V J Rr)) (a := 1) C hr rfl dX12_isPlant_28 (by decide) () rfl ⟨Or.inr ⟨rfl, by omega⟩, hF _ rfl⟩
theorem hd_yX12_isPlant : yX12_isPlant.cls ≠ "java/lang/invoke/MethodHandle" ∧ yX12_isPlant.cls ≠ "java/lang/invoke/VarHandle" ∧ (parseMethodDescriptor yX12_isPlant.desc).map (fun d => d.parameters.length) = some 1 := by decide +kernel
theorem dX12_lives_0 : decode cX12_lives 0 = .ok (.aload_n 0, 1) := by decide +kernel
theorem dX12_lives_1 : decode cX12_lives 1 = .ok (.iload_n 1, 1) := by decide +kernel
theorem dX12_lives_2 : decode cX12_lives 2 = .ok (.invokevirtual 122, 3) := by decide +kernel
theorem dX12_lives_5 : decode cX12_lives 5 = .ok (.ifCond .eq 21, 3) := by decide +kernel
theorem dX12_lives_8 : decode cX12_lives 8 = .ok (.aload_n 0, 1) := by decide +kernel
theorem dX12_lives_9 : decode cX12_lives 9 = .ok (.getfield 7, 3) := by decide +kernel
theorem dX12_lives_12 : decode cX12_lives 12 = .ok (.bipush 77, 2) := by decide +kernel
theorem dX12_lives_14 : decode cX12_lives 14 = .ok (.iaload, 1) := by decide +kernel
theorem dX12_lives_15 : decode cX12_lives 15 = .ok (.iload_n 1, 1) := by decide +kernel
theorem dX12_lives_16 : decode cX12_lives 16 = .ok (.invokestatic 118, 3) := by decide +kernel
theorem dX12_lives_19 : decode cX12_lives 19 = .ok (.ifCond .ne 7, 3) := by decide +kernel
theorem dX12_lives_22 : decode cX12_lives 22 = .ok (.iconst 1, 1) := by decide +kernel
theorem dX12_lives_23 : decode cX12_lives 23 = .ok (.goto 4, 3) := by decide +kernel
theorem dX12_lives_26 : decode cX12_lives 26 = .ok (.iconst 0, 1) := by decide +kernel
theorem dX12_lives_27 : decode cX12_lives 27 = .ok (.ireturn, 1) := by decide +kernel
set_option maxRecDepth 100000 in
def f_m_lives (x1 : Int) (V : Nat → Nat → Int) (J : Nat → Nat → Int) (Rr : Nat → Nat → Nat) : (Int) → Prop :=
  calR (f_m_isPlant x1 V J Rr) fun z1 => fct (0 ≤ z1 ∧ z1 ≤ 1) <| (if z1 = 0 then rtn 0 else rdb (V 1 77) fun z4 => calR (f_m_has z4 x1) fun z5 => fct (0 ≤ z5 ∧ z5 ≤ 1) <| (if ¬ z5 = 0 then rtn 0 else rtn 1))
set_option maxHeartbeats 8000000 in
set_option maxRecDepth 100000 in
theorem m_lives (l : Launch) (D : va_G) (cy : Nat → ClassId) (ad : Nat → Nat) (G : Nat → Nat → Int) (V J : Nat → Nat → Int) (Rr : Nat → Nat → Nat) (hI : MI G V) (hJ : VJ J) (hR : MR Rr) (x1 : Int) (bx1 : -2147483648 ≤ x1 ∧ x1 ≤ 2147483647) : xMi l D (xTY cy) yX12_lives cX12_lives 2 (some .boolean) 2 42 0 0 [.ref (ad 0), vI x1] (MW cy ad V J Rr) (fun _ : Unit => MW cy ad V J Rr) (fun a (u : Unit) => (0 ≤ a ∧ a ≤ 1) ∧ (Sp a ((0 ≤ x1 ∧ x1 ≤ 3) ∧ V 1 (12 + x1.toNat) ≤ 8 ∧ V 1 (16 + x1.toNat) ≤ 8)) ∧ (f_m_lives x1 V J Rr) a) := by
  refine xMi.mk (lv0 := [(0, .ref (ad 0)), (1, vI x1)]) (by decide) rfl (Nat.le_of_ble_eq_true rfl) (fun p e s m below meth c A C hr hnm hAe => ?_)
  have C : xC2 p s m _ meth c D A s.heap 2 cX12_lives RX12 (xTY cy) := C
  have hF := Imp.of_eq (f_m_lives.eq_def x1 V J Rr)
  refine x_aload_n C.1 dX12_lives_0 0 rfl ?_
  refine x_iload_n C.1 dX12_lives_1 1 rfl ?_
  refine x_callVi C (As := [vI x1]) (rest := []) 0 (xw_at (N := 33) (i := 0) (by decide) rfl) vc_X12 (m_isPlant l D cy ad G V J Rr hI hJ hR x1 ⟨by omega, by omega⟩) (l1 := []) (l2 := []) (List.append_nil _).symm (w2 := fun _ => MW cy ad V J Rr) (fun _ => List.append_nil _) rfl wm_yX12_isPlant wn_X12 wl_X12_122 wi_yX12_isPlant we_yX12_isPlant hd_yX12_isPlant rfl ⟨Nat.le_of_ble_eq_true rfl, Nat.le_of_ble_eq_true rfl⟩ (Nat.le_of_ble_eq_true rfl) ⟨Nat.le_of_ble_eq_true rfl, Nat.le_of_ble_eq_true rfl⟩ dX12_lives_2 (fun z1 u1 bz1 h1 => ?_)
  obtain ⟨hon1, hFc1⟩ := h1
  replace hF := calR_i hF hFc1
  replace hF := hF.fc hon1.r
  have bq1 := Sp.r hon1
  refine x_if_eq C.1 (tgt := 26) dX12_lives_5 (by decide) (by omega) (fun hc2 => ?_) (fun hc2 => ?_)
  · replace hF := hF.to (if_pos hc2)
    refine x_iconst C.1 (n := 0) dX12_lives_26 ?_
    exact x_zret (S := Unit) (post := (fun a (u : Unit) => (0 ≤ a ∧ a ≤ 1) ∧ (Sp a ((0 ≤ x1 ∧ x1 ≤ 3) ∧ V 1 (12 + x1.toNat) ≤ 8 ∧ V 1 (16 + x1.toNat) ≤ 8)) ∧ (f_m_lives x1 V J Rr) a)) (w1 := (fun _ : Unit => MW cy ad V J Rr)) (a := 0) C hr rfl dX12_lives_27 (by decide) () rfl ⟨⟨by decide, by decide⟩, (Or.inl rfl), hF _ rfl⟩
  · replace hF := hF.to (if_neg hc2)
    have hon3 := Sp.on hon1 (by omega)
    refine x_aload_n C.1 dX12_lives_8 0 rfl ?_
    refine x_getA C (N := 33) (i := 0) (by decide) rfl vc_X12 wx_X12 0 (by decide) wf_X12_7 (a := 1) rfl dX12_lives_9 ?_
    refine x_bipush C.1 (n := 77) dX12_lives_12 ?_
    obtain ⟨z4, ez4, bz4⟩ := hI.rd 1 77 (x := -2147483648) (y := 2147483647) (rgN_81 (Or.inl rfl) (by decide))
    replace hF := hF.to (rdb_e (z := z4) ez4)
    refine x_iald C (N := 33) (i := 1) (q := 77) (by decide) rfl (by decide) (by decide) dX12_lives_14 (a := z4) ez4 ?_
    refine x_iload_n C.1 dX12_lives_15 1 rfl ?_
    refine x_callSi C (As := [vI z4, vI x1]) (rest := []) (m_has l D cy z4 ⟨by omega, by omega⟩ x1 ⟨by omega, by omega⟩) (l1 := []) (l2 := _) rfl (w2 := fun _ => _) (fun _ => rfl) rfl wm_yX12_has wn_X12 wl_X12_118 wi_yX12_has hd_yX12_has rfl ⟨Nat.le_of_ble_eq_true rfl, Nat.le_of_ble_eq_true rfl⟩ (Nat.le_of_ble_eq_true rfl) ⟨Nat.le_of_ble_eq_true rfl, Nat.le_of_ble_eq_true rfl⟩ dX12_lives_16 (fun z5 u5 bz5 h5 => ?_)
    obtain ⟨bq5, hx5_0, hFc5⟩ := h5
    replace hF := calR_i hF hFc5
    replace hF := hF.fc bq5
    refine x_if_ne C.1 (tgt := 26) dX12_lives_19 (by decide) (by omega) (fun hc6 => ?_) (fun hc6 => ?_)
    · replace hF := hF.to (if_pos hc6)
      have hon7 := Sq.on hx5_0 (by omega)
      refine x_iconst C.1 (n := 0) dX12_lives_26 ?_
      exact x_zret (S := Unit) (post := (fun a (u : Unit) => (0 ≤ a ∧ a ≤ 1) ∧ (Sp a ((0 ≤ x1 ∧ x1 ≤ 3) ∧ V 1 (12 + x1.toNat) ≤ 8 ∧ V 1 (16 + x1.toNat) ≤ 8)) ∧ (f_m_lives x1 V J Rr) a)) (w1 := (fun _ : Unit => MW cy ad V J Rr)) (a := 0) C hr rfl dX12_lives_27 (by decide) () rfl ⟨⟨by decide, by decide⟩, (Or.inl rfl), hF _ rfl⟩
    · replace hF := hF.to (if_neg (fun hh => hh hc6))
      have hof8 := Sq.off hx5_0 (by omega)
      refine x_iconst C.1 (n := 1) dX12_lives_22 ?_
      refine x_goto C.1 (tgt := 27) dX12_lives_23 (by decide) ?_
      exact x_zret (S := Unit) (post := (fun a (u : Unit) => (0 ≤ a ∧ a ≤ 1) ∧ (Sp a ((0 ≤ x1 ∧ x1 ≤ 3) ∧ V 1 (12 + x1.toNat) ≤ 8 ∧ V 1 (16 + x1.toNat) ≤ 8)) ∧ (f_m_lives x1 V J Rr) a)) (w1 := (fun _ : Unit => MW cy ad V J Rr)) (a := 1) C hr rfl dX12_lives_27 (by decide) () rfl ⟨⟨by decide, by decide⟩, (Or.inr ⟨rfl, ⟨by omega, by omega⟩, MI.al hI (by omega) (by assumption) (by assumption)⟩), hF _ rfl⟩
theorem dX12_isPerson_0 : decode cX12_isPerson 0 = .ok (.iload_n 1, 1) := by decide +kernel
theorem dX12_isPerson_1 : decode cX12_isPerson 1 = .ok (.ifCond .lt 27, 3) := by decide +kernel
theorem dX12_isPerson_4 : decode cX12_isPerson 4 = .ok (.iload_n 1, 1) := by decide +kernel
theorem dX12_isPerson_5 : decode cX12_isPerson 5 = .ok (.bipush 8, 2) := by decide +kernel
theorem dX12_isPerson_7 : decode cX12_isPerson 7 = .ok (.if_icmp .ge 21, 3) := by decide +kernel
theorem dX12_isPerson_10 : decode cX12_isPerson 10 = .ok (.aload_n 0, 1) := by decide +kernel
theorem dX12_isPerson_11 : decode cX12_isPerson 11 = .ok (.getfield 7, 3) := by decide +kernel
theorem dX12_isPerson_14 : decode cX12_isPerson 14 = .ok (.bipush 78, 2) := by decide +kernel
theorem dX12_isPerson_16 : decode cX12_isPerson 16 = .ok (.iaload, 1) := by decide +kernel
theorem dX12_isPerson_17 : decode cX12_isPerson 17 = .ok (.iload_n 1, 1) := by decide +kernel
theorem dX12_isPerson_18 : decode cX12_isPerson 18 = .ok (.invokestatic 118, 3) := by decide +kernel
theorem dX12_isPerson_21 : decode cX12_isPerson 21 = .ok (.ifCond .eq 7, 3) := by decide +kernel
theorem dX12_isPerson_24 : decode cX12_isPerson 24 = .ok (.iconst 1, 1) := by decide +kernel
theorem dX12_isPerson_25 : decode cX12_isPerson 25 = .ok (.goto 4, 3) := by decide +kernel
theorem dX12_isPerson_28 : decode cX12_isPerson 28 = .ok (.iconst 0, 1) := by decide +kernel
theorem dX12_isPerson_29 : decode cX12_isPerson 29 = .ok (.ireturn, 1) := by decide +kernel
set_option maxRecDepth 100000 in
def f_m_isPerson (x1 : Int) (V : Nat → Nat → Int) (J : Nat → Nat → Int) (Rr : Nat → Nat → Nat) : (Int) → Prop :=
  (if x1 < 0 then rtn 0 else (if 8 ≤ x1 then rtn 0 else rdb (V 1 78) fun z3 => calR (f_m_has z3 x1) fun z4 => fct (0 ≤ z4 ∧ z4 ≤ 1) <| (if z4 = 0 then rtn 0 else rtn 1)))
set_option maxHeartbeats 8000000 in
set_option maxRecDepth 100000 in
theorem m_isPerson (l : Launch) (D : va_G) (cy : Nat → ClassId) (ad : Nat → Nat) (G : Nat → Nat → Int) (V J : Nat → Nat → Int) (Rr : Nat → Nat → Nat) (hI : MI G V) (hJ : VJ J) (hR : MR Rr) (x1 : Int) (bx1 : -2147483648 ≤ x1 ∧ x1 ≤ 2147483647) : xMi l D (xTY cy) yX12_isPerson cX12_isPerson 2 (some .boolean) 1 21 0 0 [.ref (ad 0), vI x1] (MW cy ad V J Rr) (fun _ : Unit => MW cy ad V J Rr) (fun a (u : Unit) => Sp a ((0 ≤ x1 ∧ x1 ≤ 7)) ∧ (f_m_isPerson x1 V J Rr) a) := by
  refine xMi.mk (lv0 := [(0, .ref (ad 0)), (1, vI x1)]) (by decide) rfl (Nat.le_of_ble_eq_true rfl) (fun p e s m below meth c A C hr hnm hAe => ?_)
  have C : xC2 p s m _ meth c D A s.heap 2 cX12_isPerson RX12 (xTY cy) := C
  have hF := Imp.of_eq (f_m_isPerson.eq_def x1 V J Rr)
  refine x_iload_n C.1 dX12_isPerson_0 1 rfl ?_
  refine x_if_lt C.1 (tgt := 28) dX12_isPerson_1 (by decide) (by omega) (fun hc1 => ?_) (fun hc1 => ?_)
  · replace hF := hF.to (if_pos hc1)
    refine x_iconst C.1 (n := 0) dX12_isPerson_28 ?_
    exact x_zret (S := Unit) (post := (fun a (u : Unit) => Sp a ((0 ≤ x1 ∧ x1 ≤ 7)) ∧ (f_m_isPerson x1 V J Rr) a)) (w1 := (fun _ : Unit => MW cy ad V J Rr)) (a := 0) C hr rfl dX12_isPerson_29 (by decide) () rfl ⟨Or.inl rfl, hF _ rfl⟩
  · replace hF := hF.to (if_neg hc1)
    refine x_iload_n C.1 dX12_isPerson_4 1 rfl ?_
    refine x_bipush C.1 (n := 8) dX12_isPerson_5 ?_
    refine x_icmp_ge C.1 (tgt := 28) dX12_isPerson_7 (by decide) (by omega) (by decide) (fun hc2 => ?_) (fun hc2 => ?_)
    · replace hF := hF.to (if_pos hc2)
      refine x_iconst C.1 (n := 0) dX12_isPerson_28 ?_
      exact x_zret (S := Unit) (post := (fun a (u : Unit) => Sp a ((0 ≤ x1 ∧ x1 ≤ 7)) ∧ (f_m_isPerson x1 V J Rr) a)) (w1 := (fun _ : Unit => MW cy ad V J Rr)) (a := 0) C hr rfl dX12_isPerson_29 (by decide) () rfl ⟨Or.inl rfl, hF _ rfl⟩
    · replace hF := hF.to (if_neg hc2)
      refine x_aload_n C.1 dX12_isPerson_10 0 rfl ?_
      refine x_getA C (N := 33) (i := 0) (by decide) rfl vc_X12 wx_X12 0 (by decide) wf_X12_7 (a := 1) rfl dX12_isPerson_11 ?_
      refine x_bipush C.1 (n := 78) dX12_isPerson_14 ?_
      obtain ⟨z3, ez3, bz3⟩ := hI.rd 1 78 (x := -2147483648) (y := 2147483647) (rgN_81 (Or.inl rfl) (by decide))
      replace hF := hF.to (rdb_e (z := z3) ez3)
      refine x_iald C (N := 33) (i := 1) (q := 78) (by decide) rfl (by decide) (by decide) dX12_isPerson_16 (a := z3) ez3 ?_
      refine x_iload_n C.1 dX12_isPerson_17 1 rfl ?_
      refine x_callSi C (As := [vI z3, vI x1]) (rest := []) (m_has l D cy z3 ⟨by omega, by omega⟩ x1 ⟨by omega, by omega⟩) (l1 := []) (l2 := _) rfl (w2 := fun _ => _) (fun _ => rfl) rfl wm_yX12_has wn_X12 wl_X12_118 wi_yX12_has hd_yX12_has rfl ⟨Nat.le_of_ble_eq_true rfl, Nat.le_of_ble_eq_true rfl⟩ (Nat.le_of_ble_eq_true rfl) ⟨Nat.le_of_ble_eq_true rfl, Nat.le_of_ble_eq_true rfl⟩ dX12_isPerson_18 (fun z4 u4 bz4 h4 => ?_)
      obtain ⟨bq4, hx4_0, hFc4⟩ := h4
      replace hF := calR_i hF hFc4
      replace hF := hF.fc bq4
      refine x_if_eq C.1 (tgt := 28) dX12_isPerson_21 (by decide) (by omega) (fun hc5 => ?_) (fun hc5 => ?_)
      · replace hF := hF.to (if_pos hc5)
        refine x_iconst C.1 (n := 0) dX12_isPerson_28 ?_
        exact x_zret (S := Unit) (post := (fun a (u : Unit) => Sp a ((0 ≤ x1 ∧ x1 ≤ 7)) ∧ (f_m_isPerson x1 V J Rr) a)) (w1 := (fun _ : Unit => MW cy ad V J Rr)) (a := 0) C hr rfl dX12_isPerson_29 (by decide) () rfl ⟨Or.inl rfl, hF _ rfl⟩
      · replace hF := hF.to (if_neg hc5)
        have hon6 := Sq.on hx4_0 (by omega)
        refine x_iconst C.1 (n := 1) dX12_isPerson_24 ?_
        refine x_goto C.1 (tgt := 29) dX12_isPerson_25 (by decide) ?_
        exact x_zret (S := Unit) (post := (fun a (u : Unit) => Sp a ((0 ≤ x1 ∧ x1 ≤ 7)) ∧ (f_m_isPerson x1 V J Rr) a)) (w1 := (fun _ : Unit => MW cy ad V J Rr)) (a := 1) C hr rfl dX12_isPerson_29 (by decide) () rfl ⟨Or.inr ⟨rfl, by omega⟩, hF _ rfl⟩
theorem hd_yX12_in : yX12_in.cls ≠ "java/lang/invoke/MethodHandle" ∧ yX12_in.cls ≠ "java/lang/invoke/VarHandle" ∧ (parseMethodDescriptor yX12_in.desc).map (fun d => d.parameters.length) = some 3 := by decide +kernel
theorem dX12_person_0 : decode cX12_person 0 = .ok (.iload_n 1, 1) := by decide +kernel
theorem dX12_person_1 : decode cX12_person 1 = .ok (.iconst 0, 1) := by decide +kernel
theorem dX12_person_2 : decode cX12_person 2 = .ok (.bipush 7, 2) := by decide +kernel
theorem dX12_person_4 : decode cX12_person 4 = .ok (.invokestatic 126, 3) := by decide +kernel
theorem dX12_person_7 : decode cX12_person 7 = .ok (.ifCond .eq 22, 3) := by decide +kernel
theorem dX12_person_10 : decode cX12_person 10 = .ok (.iload_n 2, 1) := by decide +kernel
theorem dX12_person_11 : decode cX12_person 11 = .ok (.iconst 0, 1) := by decide +kernel
theorem dX12_person_12 : decode cX12_person 12 = .ok (.bipush 10, 2) := by decide +kernel
theorem dX12_person_14 : decode cX12_person 14 = .ok (.invokestatic 126, 3) := by decide +kernel
theorem dX12_person_17 : decode cX12_person 17 = .ok (.ifCond .eq 12, 3) := by decide +kernel
theorem dX12_person_20 : decode cX12_person 20 = .ok (.iload_n 3, 1) := by decide +kernel
theorem dX12_person_21 : decode cX12_person 21 = .ok (.iconst 0, 1) := by decide +kernel
theorem dX12_person_22 : decode cX12_person 22 = .ok (.iconst 3, 1) := by decide +kernel
theorem dX12_person_23 : decode cX12_person 23 = .ok (.invokestatic 126, 3) := by decide +kernel
theorem dX12_person_26 : decode cX12_person 26 = .ok (.ifCond .ne 5, 3) := by decide +kernel
theorem dX12_person_29 : decode cX12_person 29 = .ok (.iconst 0, 1) := by decide +kernel
theorem dX12_person_30 : decode cX12_person 30 = .ok (.ireturn, 1) := by decide +kernel
theorem dX12_person_31 : decode cX12_person 31 = .ok (.aload_n 0, 1) := by decide +kernel
theorem dX12_person_32 : decode cX12_person 32 = .ok (.getfield 7, 3) := by decide +kernel
theorem dX12_person_35 : decode cX12_person 35 = .ok (.bipush 78, 2) := by decide +kernel
theorem dX12_person_37 : decode cX12_person 37 = .ok (.aload_n 0, 1) := by decide +kernel
theorem dX12_person_38 : decode cX12_person 38 = .ok (.getfield 7, 3) := by decide +kernel
theorem dX12_person_41 : decode cX12_person 41 = .ok (.bipush 78, 2) := by decide +kernel
theorem dX12_person_43 : decode cX12_person 43 = .ok (.iaload, 1) := by decide +kernel
theorem dX12_person_44 : decode cX12_person 44 = .ok (.iconst 1, 1) := by decide +kernel
theorem dX12_person_45 : decode cX12_person 45 = .ok (.iload_n 1, 1) := by decide +kernel
theorem dX12_person_46 : decode cX12_person 46 = .ok (.ishl, 1) := by decide +kernel
theorem dX12_person_47 : decode cX12_person 47 = .ok (.ior, 1) := by decide +kernel
theorem dX12_person_48 : decode cX12_person 48 = .ok (.iastore, 1) := by decide +kernel
theorem dX12_person_49 : decode cX12_person 49 = .ok (.aload_n 0, 1) := by decide +kernel
theorem dX12_person_50 : decode cX12_person 50 = .ok (.getfield 7, 3) := by decide +kernel
theorem dX12_person_53 : decode cX12_person 53 = .ok (.bipush 52, 2) := by decide +kernel
theorem dX12_person_55 : decode cX12_person 55 = .ok (.iload_n 1, 1) := by decide +kernel
theorem dX12_person_56 : decode cX12_person 56 = .ok (.iadd, 1) := by decide +kernel
theorem dX12_person_57 : decode cX12_person 57 = .ok (.iload_n 2, 1) := by decide +kernel
theorem dX12_person_58 : decode cX12_person 58 = .ok (.iastore, 1) := by decide +kernel
theorem dX12_person_59 : decode cX12_person 59 = .ok (.aload_n 0, 1) := by decide +kernel
theorem dX12_person_60 : decode cX12_person 60 = .ok (.getfield 7, 3) := by decide +kernel
theorem dX12_person_63 : decode cX12_person 63 = .ok (.bipush 60, 2) := by decide +kernel
theorem dX12_person_65 : decode cX12_person 65 = .ok (.iload_n 1, 1) := by decide +kernel
theorem dX12_person_66 : decode cX12_person 66 = .ok (.iadd, 1) := by decide +kernel
theorem dX12_person_67 : decode cX12_person 67 = .ok (.iload_n 3, 1) := by decide +kernel
theorem dX12_person_68 : decode cX12_person 68 = .ok (.iastore, 1) := by decide +kernel
theorem dX12_person_69 : decode cX12_person 69 = .ok (.aload_n 0, 1) := by decide +kernel
theorem dX12_person_70 : decode cX12_person 70 = .ok (.getfield 7, 3) := by decide +kernel
theorem dX12_person_73 : decode cX12_person 73 = .ok (.bipush 68, 2) := by decide +kernel
theorem dX12_person_75 : decode cX12_person 75 = .ok (.iload_n 1, 1) := by decide +kernel
theorem dX12_person_76 : decode cX12_person 76 = .ok (.iadd, 1) := by decide +kernel
theorem dX12_person_77 : decode cX12_person 77 = .ok (.iconst 0, 1) := by decide +kernel
theorem dX12_person_78 : decode cX12_person 78 = .ok (.iastore, 1) := by decide +kernel
theorem dX12_person_79 : decode cX12_person 79 = .ok (.iconst 1, 1) := by decide +kernel
theorem dX12_person_80 : decode cX12_person 80 = .ok (.ireturn, 1) := by decide +kernel
set_option maxRecDepth 100000 in
def f_m_person (x1 : Int) (x2 : Int) (x3 : Int) (V : Nat → Nat → Int) (J : Nat → Nat → Int) (Rr : Nat → Nat → Nat) : (Int × (Nat → Nat → Int)) → Prop :=
  calR (f_m_in x1 0 7) fun z1 => fct (0 ≤ z1 ∧ z1 ≤ 1) <| (if z1 = 0 then rtn (0, V) else calR (f_m_in x2 0 10) fun z5 => fct (0 ≤ z5 ∧ z5 ≤ 1) <| (if z5 = 0 then rtn (0, V) else calR (f_m_in x3 0 3) fun z9 => fct (0 ≤ z9 ∧ z9 ≤ 1) <| (if ¬ z9 = 0 then rdb (V 1 78) fun z12 => rdb (iShl 1 x1) fun z13 => rdb (iOr z12 z13) fun z14 => rdb (up2 V 1 78 z14) fun V15 => rdb (up2 V15 1 ((x1 + 52).toNat) x2) fun V16 => rdb (up2 V16 1 ((x1 + 60).toNat) x3) fun V17 => rdb (up2 V17 1 ((x1 + 68).toNat) 0) fun V18 => rtn (1, V18) else rtn (0, V))))
set_option maxHeartbeats 8000000 in
set_option maxRecDepth 100000 in
theorem m_person (l : Launch) (D : va_G) (cy : Nat → ClassId) (ad : Nat → Nat) (G : Nat → Nat → Int) (V J : Nat → Nat → Int) (Rr : Nat → Nat → Nat) (hI : MI G V) (hJ : VJ J) (hR : MR Rr) (x1 : Int) (bx1 : -2147483648 ≤ x1 ∧ x1 ≤ 2147483647) (x2 : Int) (bx2 : -2147483648 ≤ x2 ∧ x2 ≤ 2147483647) (x3 : Int) (bx3 : -2147483648 ≤ x3 ∧ x3 ≤ 2147483647) : xMi l D (xTY cy) yX12_person cX12_person 4 (some .boolean) 1 22 0 0 [.ref (ad 0), vI x1, vI x2, vI x3] (MW cy ad V J Rr) (fun u : Nat → Nat → Int => MW cy ad u J Rr) (fun a (u : Nat → Nat → Int) => MI G u ∧ ((a = 1 ∧ 0 ≤ x1 ∧ x1 < 8 ∧ 0 ≤ x2 ∧ x2 ≤ 10 ∧ 0 ≤ x3 ∧ x3 < 4) ∨ (a = 0 ∧ ¬ (0 ≤ x1 ∧ x1 < 8 ∧ 0 ≤ x2 ∧ x2 ≤ 10 ∧ 0 ≤ x3 ∧ x3 < 4))) ∧ FBm 36893488147419103232 V u ∧ (f_m_person x1 x2 x3 V J Rr) (a, u)) := by
  refine xMi.mk (lv0 := [(0, .ref (ad 0)), (1, vI x1), (2, vI x2), (3, vI x3)]) (by decide) rfl (Nat.le_of_ble_eq_true rfl) (fun p e s m below meth c A C hr hnm hAe => ?_)
  have C : xC2 p s m _ meth c D A s.heap 4 cX12_person RX12 (xTY cy) := C
  have hB : FBm 36893488147419103232 V V := FBm.rf _ _
  have hF := Imp.of_eq (f_m_person.eq_def x1 x2 x3 V J Rr)
  refine x_iload_n C.1 dX12_person_0 1 rfl ?_
  refine x_iconst C.1 (n := 0) dX12_person_1 ?_
  refine x_bipush C.1 (n := 7) dX12_person_2 ?_
  refine x_callSi C (As := [vI x1, vI 0, vI 7]) (rest := []) (m_in l D cy x1 ⟨by omega, by omega⟩ 0 ⟨by decide, by decide⟩ 7 ⟨by decide, by decide⟩) (l1 := []) (l2 := _) rfl (w2 := fun _ => _) (fun _ => rfl) rfl wm_yX12_in wn_X12 wl_X12_126 wi_yX12_in hd_yX12_in rfl ⟨Nat.le_of_ble_eq_true rfl, Nat.le_of_ble_eq_true rfl⟩ (Nat.le_of_ble_eq_true rfl) ⟨Nat.le_of_ble_eq_true rfl, Nat.le_of_ble_eq_true rfl⟩ dX12_person_4 (fun z1 u1 bz1 h1 => ?_)
  obtain ⟨bq1, hx1_0, hFc1⟩ := h1
  replace hF := calR_i hF hFc1
  replace hF := hF.fc bq1
  refine x_if_eq C.1 (tgt := 29) dX12_person_7 (by decide) (by omega) (fun hc2 => ?_) (fun hc2 => ?_)
  · replace hF := hF.to (if_pos hc2)
    have hof3 := Sq.off hx1_0 (by omega)
    refine x_iconst C.1 (n := 0) dX12_person_29 ?_
    exact x_zret (S := (Nat → Nat → Int)) (post := (fun a (u : Nat → Nat → Int) => MI G u ∧ ((a = 1 ∧ 0 ≤ x1 ∧ x1 < 8 ∧ 0 ≤ x2 ∧ x2 ≤ 10 ∧ 0 ≤ x3 ∧ x3 < 4) ∨ (a = 0 ∧ ¬ (0 ≤ x1 ∧ x1 < 8 ∧ 0 ≤ x2 ∧ x2 ≤ 10 ∧ 0 ≤ x3 ∧ x3 < 4))) ∧ FBm 36893488147419103232 V u ∧ (f_m_person x1 x2 x3 V J Rr) (a, u))) (w1 := (fun u : Nat → Nat → Int => MW cy ad u J Rr)) (a := 0) C hr rfl dX12_person_30 (by decide) V rfl ⟨hI, (by omega), hB, hF _ rfl⟩
  · replace hF := hF.to (if_neg hc2)
    have hon4 := Sq.on hx1_0 (by omega)
    refine x_iload_n C.1 dX12_person_10 2 rfl ?_
    refine x_iconst C.1 (n := 0) dX12_person_11 ?_
    refine x_bipush C.1 (n := 10) dX12_person_12 ?_
    refine x_callSi C (As := [vI x2, vI 0, vI 10]) (rest := []) (m_in l D cy x2 ⟨by omega, by omega⟩ 0 ⟨by decide, by decide⟩ 10 ⟨by decide, by decide⟩) (l1 := []) (l2 := _) rfl (w2 := fun _ => _) (fun _ => rfl) rfl wm_yX12_in wn_X12 wl_X12_126 wi_yX12_in hd_yX12_in rfl ⟨Nat.le_of_ble_eq_true rfl, Nat.le_of_ble_eq_true rfl⟩ (Nat.le_of_ble_eq_true rfl) ⟨Nat.le_of_ble_eq_true rfl, Nat.le_of_ble_eq_true rfl⟩ dX12_person_14 (fun z5 u5 bz5 h5 => ?_)
    obtain ⟨bq5, hx5_0, hFc5⟩ := h5
    replace hF := calR_i hF hFc5
    replace hF := hF.fc bq5
    refine x_if_eq C.1 (tgt := 29) dX12_person_17 (by decide) (by omega) (fun hc6 => ?_) (fun hc6 => ?_)
    · replace hF := hF.to (if_pos hc6)
      have hof7 := Sq.off hx5_0 (by omega)
      refine x_iconst C.1 (n := 0) dX12_person_29 ?_
      exact x_zret (S := (Nat → Nat → Int)) (post := (fun a (u : Nat → Nat → Int) => MI G u ∧ ((a = 1 ∧ 0 ≤ x1 ∧ x1 < 8 ∧ 0 ≤ x2 ∧ x2 ≤ 10 ∧ 0 ≤ x3 ∧ x3 < 4) ∨ (a = 0 ∧ ¬ (0 ≤ x1 ∧ x1 < 8 ∧ 0 ≤ x2 ∧ x2 ≤ 10 ∧ 0 ≤ x3 ∧ x3 < 4))) ∧ FBm 36893488147419103232 V u ∧ (f_m_person x1 x2 x3 V J Rr) (a, u))) (w1 := (fun u : Nat → Nat → Int => MW cy ad u J Rr)) (a := 0) C hr rfl dX12_person_30 (by decide) V rfl ⟨hI, (by omega), hB, hF _ rfl⟩
    · replace hF := hF.to (if_neg hc6)
      have hon8 := Sq.on hx5_0 (by omega)
      refine x_iload_n C.1 dX12_person_20 3 rfl ?_
      refine x_iconst C.1 (n := 0) dX12_person_21 ?_
      refine x_iconst C.1 (n := 3) dX12_person_22 ?_
      refine x_callSi C (As := [vI x3, vI 0, vI 3]) (rest := []) (m_in l D cy x3 ⟨by omega, by omega⟩ 0 ⟨by decide, by decide⟩ 3 ⟨by decide, by decide⟩) (l1 := []) (l2 := _) rfl (w2 := fun _ => _) (fun _ => rfl) rfl wm_yX12_in wn_X12 wl_X12_126 wi_yX12_in hd_yX12_in rfl ⟨Nat.le_of_ble_eq_true rfl, Nat.le_of_ble_eq_true rfl⟩ (Nat.le_of_ble_eq_true rfl) ⟨Nat.le_of_ble_eq_true rfl, Nat.le_of_ble_eq_true rfl⟩ dX12_person_23 (fun z9 u9 bz9 h9 => ?_)
      obtain ⟨bq9, hx9_0, hFc9⟩ := h9
      replace hF := calR_i hF hFc9
      replace hF := hF.fc bq9
      refine x_if_ne C.1 (tgt := 31) dX12_person_26 (by decide) (by omega) (fun hc10 => ?_) (fun hc10 => ?_)
      · replace hF := hF.to (if_pos hc10)
        have hon11 := Sq.on hx9_0 (by omega)
        refine x_aload_n C.1 dX12_person_31 0 rfl ?_
        refine x_getA C (N := 33) (i := 0) (by decide) rfl vc_X12 wx_X12 0 (by decide) wf_X12_7 (a := 1) rfl dX12_person_32 ?_
        refine x_bipush C.1 (n := 78) dX12_person_35 ?_
        refine x_aload_n C.1 dX12_person_37 0 rfl ?_
        refine x_getA C (N := 33) (i := 0) (by decide) rfl vc_X12 wx_X12 0 (by decide) wf_X12_7 (a := 1) rfl dX12_person_38 ?_
        refine x_bipush C.1 (n := 78) dX12_person_41 ?_
        obtain ⟨z12, ez12, bz12⟩ := hI.rd 1 78 (x := -2147483648) (y := 2147483647) (rgN_81 (Or.inl rfl) (by decide))
        replace hF := hF.to (rdb_e (z := z12) ez12)
        refine x_iald C (N := 33) (i := 1) (q := 78) (by decide) rfl (by decide) (by decide) dX12_person_43 (a := z12) ez12 ?_
        refine x_iconst C.1 (n := 1) dX12_person_44 ?_
        refine x_iload_n C.1 dX12_person_45 1 rfl ?_
        obtain ⟨z13, hz13, bz13⟩ : ∃ z : Int, iShl 1 x1 = z ∧ (-2147483648 ≤ z ∧ z ≤ 2147483647) := ⟨_, rfl, xi_r _⟩
        replace hF := hF.to (rdb_e (z := z13) hz13)
        refine x_ishl C.1 (v := z13) hz13 dX12_person_46 ?_
        obtain ⟨z14, hz14, bz14⟩ : ∃ z : Int, iOr z12 z13 = z ∧ (-2147483648 ≤ z ∧ z ≤ 2147483647) := ⟨_, rfl, xi_r _⟩
        replace hF := hF.to (rdb_e (z := z14) hz14)
        refine x_ior C.1 (v := z14) hz14 dX12_person_47 ?_
        refine x_iast C (N := 33) (i := 1) (q := 78) (a := z14) (by decide) rfl (by decide) (by decide) dX12_person_48 ?_
        rw [show (78 : Int).toNat = 78 from rfl]
        refine x_gV ?_
        intro V15 hV15
        have hI15 : MI G V15 := hI.up hV15 (rgN_81 (Or.inl rfl) (by decide)) (by omega) rfl (Or.inr (by decide))
        have hB15 := hB.up hV15 (by rw [mkey_r (by decide)]; rfl)
        replace hF := hF.to (rdb_e (z := V15) hV15.symm)
        refine x_aload_n C.1 dX12_person_49 0 rfl ?_
        refine x_getA C (N := 33) (i := 0) (by decide) rfl vc_X12 wx_X12 0 (by decide) wf_X12_7 (a := 1) rfl dX12_person_50 ?_
        refine x_bipush C.1 (n := 52) dX12_person_53 ?_
        refine x_iload_n C.1 dX12_person_55 1 rfl ?_
        refine x_iadd C.1 (v := x1 + 52) (by omega) dX12_person_56 ?_
        refine x_iload_n C.1 dX12_person_57 2 rfl ?_
        refine x_iast C (N := 33) (i := 1) (q := x1 + 52) (a := x2) (by decide) rfl (by omega) (by decide) dX12_person_58 ?_
        refine x_gV ?_
        intro V16 hV16
        have hI16 : MI G V16 := hI15.up hV16 (rgN_60 (Or.inl rfl) (by omega)) (by omega) rfl (Or.inr (by omega))
        have hB16 := hB15.up hV16 (by rw [mkey_r (by decide)]; rfl)
        replace hF := hF.to (rdb_e (z := V16) hV16.symm)
        refine x_aload_n C.1 dX12_person_59 0 rfl ?_
        refine x_getA C (N := 33) (i := 0) (by decide) rfl vc_X12 wx_X12 0 (by decide) wf_X12_7 (a := 1) rfl dX12_person_60 ?_
        refine x_bipush C.1 (n := 60) dX12_person_63 ?_
        refine x_iload_n C.1 dX12_person_65 1 rfl ?_
        refine x_iadd C.1 (v := x1 + 60) (by omega) dX12_person_66 ?_
        refine x_iload_n C.1 dX12_person_67 3 rfl ?_
        refine x_iast C (N := 33) (i := 1) (q := x1 + 60) (a := x3) (by decide) rfl (by omega) (by decide) dX12_person_68 ?_
        refine x_gV ?_
        intro V17 hV17
        have hI17 : MI G V17 := hI16.up hV17 (rgN_68 (Or.inl rfl) (by omega)) (by omega) rfl (Or.inr (by omega))
        have hB17 := hB16.up hV17 (by rw [mkey_r (by decide)]; rfl)
        replace hF := hF.to (rdb_e (z := V17) hV17.symm)
        refine x_aload_n C.1 dX12_person_69 0 rfl ?_
        refine x_getA C (N := 33) (i := 0) (by decide) rfl vc_X12 wx_X12 0 (by decide) wf_X12_7 (a := 1) rfl dX12_person_70 ?_
        refine x_bipush C.1 (n := 68) dX12_person_73 ?_
        refine x_iload_n C.1 dX12_person_75 1 rfl ?_
        refine x_iadd C.1 (v := x1 + 68) (by omega) dX12_person_76 ?_
        refine x_iconst C.1 (n := 0) dX12_person_77 ?_
        refine x_iast C (N := 33) (i := 1) (q := x1 + 68) (a := 0) (by decide) rfl (by omega) (by decide) dX12_person_78 ?_
        refine x_gV ?_
        intro V18 hV18
        have hI18 : MI G V18 := hI17.up hV18 (rgN_81 (Or.inl rfl) (by omega)) (by decide) rfl (Or.inr (by omega))
        have hB18 := hB17.up hV18 (by rw [mkey_r (by decide)]; rfl)
        replace hF := hF.to (rdb_e (z := V18) hV18.symm)
        refine x_iconst C.1 (n := 1) dX12_person_79 ?_
        exact x_zret (S := (Nat → Nat → Int)) (post := (fun a (u : Nat → Nat → Int) => MI G u ∧ ((a = 1 ∧ 0 ≤ x1 ∧ x1 < 8 ∧ 0 ≤ x2 ∧ x2 ≤ 10 ∧ 0 ≤ x3 ∧ x3 < 4) ∨ (a = 0 ∧ ¬ (0 ≤ x1 ∧ x1 < 8 ∧ 0 ≤ x2 ∧ x2 ≤ 10 ∧ 0 ≤ x3 ∧ x3 < 4))) ∧ FBm 36893488147419103232 V u ∧ (f_m_person x1 x2 x3 V J Rr) (a, u))) (w1 := (fun u : Nat → Nat → Int => MW cy ad u J Rr)) (a := 1) C hr rfl dX12_person_80 (by decide) V18 rfl ⟨hI18, (by omega), hB18, hF _ rfl⟩
      · replace hF := hF.to (if_neg (fun hh => hh hc10))
        have hof19 := Sq.off hx9_0 (by omega)
        refine x_iconst C.1 (n := 0) dX12_person_29 ?_
        exact x_zret (S := (Nat → Nat → Int)) (post := (fun a (u : Nat → Nat → Int) => MI G u ∧ ((a = 1 ∧ 0 ≤ x1 ∧ x1 < 8 ∧ 0 ≤ x2 ∧ x2 ≤ 10 ∧ 0 ≤ x3 ∧ x3 < 4) ∨ (a = 0 ∧ ¬ (0 ≤ x1 ∧ x1 < 8 ∧ 0 ≤ x2 ∧ x2 ≤ 10 ∧ 0 ≤ x3 ∧ x3 < 4))) ∧ FBm 36893488147419103232 V u ∧ (f_m_person x1 x2 x3 V J Rr) (a, u))) (w1 := (fun u : Nat → Nat → Int => MW cy ad u J Rr)) (a := 0) C hr rfl dX12_person_30 (by decide) V rfl ⟨hI, (by omega), hB, hF _ rfl⟩
theorem dX12_card_0 : decode cX12_card 0 = .ok (.aload_n 0, 1) := by decide +kernel
theorem dX12_card_1 : decode cX12_card 1 = .ok (.iload_n 1, 1) := by decide +kernel
theorem dX12_card_2 : decode cX12_card 2 = .ok (.invokevirtual 122, 3) := by decide +kernel
theorem dX12_card_5 : decode cX12_card 5 = .ok (.ifCond .eq 26, 3) := by decide +kernel
theorem dX12_card_8 : decode cX12_card 8 = .ok (.aload_n 0, 1) := by decide +kernel
theorem dX12_card_9 : decode cX12_card 9 = .ok (.getfield 7, 3) := by decide +kernel
theorem dX12_card_12 : decode cX12_card 12 = .ok (.bipush 20, 2) := by decide +kernel
theorem dX12_card_14 : decode cX12_card 14 = .ok (.iload_n 1, 1) := by decide +kernel
theorem dX12_card_15 : decode cX12_card 15 = .ok (.iadd, 1) := by decide +kernel
theorem dX12_card_16 : decode cX12_card 16 = .ok (.iaload, 1) := by decide +kernel
theorem dX12_card_17 : decode cX12_card 17 = .ok (.bipush (-2), 2) := by decide +kernel
theorem dX12_card_19 : decode cX12_card 19 = .ok (.if_icmp .ne 7, 3) := by decide +kernel
theorem dX12_card_22 : decode cX12_card 22 = .ok (.iconst 1, 1) := by decide +kernel
theorem dX12_card_23 : decode cX12_card 23 = .ok (.goto 4, 3) := by decide +kernel
theorem dX12_card_26 : decode cX12_card 26 = .ok (.iconst 0, 1) := by decide +kernel
theorem dX12_card_27 : decode cX12_card 27 = .ok (.iload_n 2, 1) := by decide +kernel
theorem dX12_card_28 : decode cX12_card 28 = .ok (.if_icmp .eq 5, 3) := by decide +kernel
theorem dX12_card_31 : decode cX12_card 31 = .ok (.iconst 0, 1) := by decide +kernel
theorem dX12_card_32 : decode cX12_card 32 = .ok (.ireturn, 1) := by decide +kernel
theorem dX12_card_33 : decode cX12_card 33 = .ok (.aload_n 0, 1) := by decide +kernel
theorem dX12_card_34 : decode cX12_card 34 = .ok (.getfield 7, 3) := by decide +kernel
theorem dX12_card_37 : decode cX12_card 37 = .ok (.bipush 20, 2) := by decide +kernel
theorem dX12_card_39 : decode cX12_card 39 = .ok (.iload_n 1, 1) := by decide +kernel
theorem dX12_card_40 : decode cX12_card 40 = .ok (.iadd, 1) := by decide +kernel
theorem dX12_card_41 : decode cX12_card 41 = .ok (.iload_n 2, 1) := by decide +kernel
theorem dX12_card_42 : decode cX12_card 42 = .ok (.ifCond .eq 8, 3) := by decide +kernel
theorem dX12_card_45 : decode cX12_card 45 = .ok (.bipush (-3), 2) := by decide +kernel
theorem dX12_card_47 : decode cX12_card 47 = .ok (.goto 5, 3) := by decide +kernel
theorem dX12_card_50 : decode cX12_card 50 = .ok (.bipush (-2), 2) := by decide +kernel
theorem dX12_card_52 : decode cX12_card 52 = .ok (.iastore, 1) := by decide +kernel
theorem dX12_card_53 : decode cX12_card 53 = .ok (.iconst 1, 1) := by decide +kernel
theorem dX12_card_54 : decode cX12_card 54 = .ok (.ireturn, 1) := by decide +kernel
set_option maxRecDepth 100000 in
def f_m_card (x1 : Int) (x2 : Int) (V : Nat → Nat → Int) (J : Nat → Nat → Int) (Rr : Nat → Nat → Nat) : (Int × (Nat → Nat → Int)) → Prop :=
  calR (f_m_isPlant x1 V J Rr) fun z1 => fct (0 ≤ z1 ∧ z1 ≤ 1) <| (if z1 = 0 then rtn (0, V) else rdb (V 1 ((x1 + 20).toNat)) fun z4 => jnk (fun (z5 : Int) => (if z5 = x2 then (if x2 = 0 then rdb (up2 V 1 ((x1 + 20).toNat) (-2)) fun V9 => rtn (1, V9) else rdb (up2 V 1 ((x1 + 20).toNat) (-3)) fun V10 => rtn (1, V10)) else rtn (0, V))) fun jf6 => (if ¬ z4 = (-2) then jf6 0 else jf6 1))
set_option maxHeartbeats 8000000 in
set_option maxRecDepth 100000 in
theorem m_card (l : Launch) (D : va_G) (cy : Nat → ClassId) (ad : Nat → Nat) (G : Nat → Nat → Int) (V J : Nat → Nat → Int) (Rr : Nat → Nat → Nat) (hI : MI G V) (hJ : VJ J) (hR : MR Rr) (x1 : Int) (bx1 : -2147483648 ≤ x1 ∧ x1 ≤ 2147483647) (x2 : Int) (bx2 : 0 ≤ x2 ∧ x2 ≤ 1) : xMi l D (xTY cy) yX12_card cX12_card 3 (some .boolean) 2 42 0 0 [.ref (ad 0), vI x1, vI x2] (MW cy ad V J Rr) (fun u : Nat → Nat → Int => MW cy ad u J Rr) (fun a (u : Nat → Nat → Int) => MI G u ∧ FBm 36893488147419103232 V u ∧ (f_m_card x1 x2 V J Rr) (a, u)) := by
  refine xMi.mk (lv0 := [(0, .ref (ad 0)), (1, vI x1), (2, vI x2)]) (by decide) rfl (Nat.le_of_ble_eq_true rfl) (fun p e s m below meth c A C hr hnm hAe => ?_)
  have C : xC2 p s m _ meth c D A s.heap 3 cX12_card RX12 (xTY cy) := C
  have hB : FBm 36893488147419103232 V V := FBm.rf _ _
  have hF := Imp.of_eq (f_m_card.eq_def x1 x2 V J Rr)
  refine x_aload_n C.1 dX12_card_0 0 rfl ?_
  refine x_iload_n C.1 dX12_card_1 1 rfl ?_
  refine x_callVi C (As := [vI x1]) (rest := []) 0 (xw_at (N := 33) (i := 0) (by decide) rfl) vc_X12 (m_isPlant l D cy ad G V J Rr hI hJ hR x1 ⟨by omega, by omega⟩) (l1 := []) (l2 := []) (List.append_nil _).symm (w2 := fun _ => MW cy ad V J Rr) (fun _ => List.append_nil _) rfl wm_yX12_isPlant wn_X12 wl_X12_122 wi_yX12_isPlant we_yX12_isPlant hd_yX12_isPlant rfl ⟨Nat.le_of_ble_eq_true rfl, Nat.le_of_ble_eq_true rfl⟩ (Nat.le_of_ble_eq_true rfl) ⟨Nat.le_of_ble_eq_true rfl, Nat.le_of_ble_eq_true rfl⟩ dX12_card_2 (fun z1 u1 bz1 h1 => ?_)
  obtain ⟨hon1, hFc1⟩ := h1
  replace hF := calR_i hF hFc1
  replace hF := hF.fc hon1.r
  have bq1 := Sp.r hon1
  refine x_if_eq C.1 (tgt := 31) dX12_card_5 (by decide) (by omega) (fun hc2 => ?_) (fun hc2 => ?_)
  · replace hF := hF.to (if_pos hc2)
    refine x_iconst C.1 (n := 0) dX12_card_31 ?_
    exact x_zret (S := (Nat → Nat → Int)) (post := (fun a (u : Nat → Nat → Int) => MI G u ∧ FBm 36893488147419103232 V u ∧ (f_m_card x1 x2 V J Rr) (a, u))) (w1 := (fun u : Nat → Nat → Int => MW cy ad u J Rr)) (a := 0) C hr rfl dX12_card_32 (by decide) V rfl ⟨hI, hB, hF _ rfl⟩
  · replace hF := hF.to (if_neg hc2)
    have hon3 := Sp.on hon1 (by omega)
    refine x_aload_n C.1 dX12_card_8 0 rfl ?_
    refine x_getA C (N := 33) (i := 0) (by decide) rfl vc_X12 wx_X12 0 (by decide) wf_X12_7 (a := 1) rfl dX12_card_9 ?_
    refine x_bipush C.1 (n := 20) dX12_card_12 ?_
    refine x_iload_n C.1 dX12_card_14 1 rfl ?_
    refine x_iadd C.1 (v := x1 + 20) (by omega) dX12_card_15 ?_
    obtain ⟨z4, ez4, bz4⟩ := hI.rd 1 ((x1 + 20).toNat) (x := -2147483648) (y := 2147483647) (rgN_60 (Or.inl rfl) (by omega))
    replace hF := hF.to (rdb_e (z := z4) ez4)
    refine x_iald C (N := 33) (i := 1) (q := x1 + 20) (by decide) rfl (by omega) (by decide) dX12_card_16 (a := z4) ez4 ?_
    refine x_bipush C.1 (n := -2) dX12_card_17 ?_
    obtain ⟨jf6, hjf6, hF⟩ := jn_ex hF
    refine x_join (I := fun z5 : Int => (0 ≤ z5 ∧ z5 ≤ 1) ∧ Imp (jf6 z5) (f_m_card x1 x2 V J Rr)) (wsf := fun z5 : Int => MW cy ad V J Rr) (lvf := fun z5 : Int => [(0, .ref (ad 0)), (1, vI x1), (2, vI x2)]) (stf := fun z5 : Int => [vI z5]) 27 (fun z5 hI6x => ?_) (fun jn6 => ?_)
    · obtain ⟨bz5, hF⟩ := hI6x
      try dsimp only
      replace hF := hF.to (jn_s1 hjf6)
      refine x_iload_n C.1 dX12_card_27 2 rfl ?_
      refine x_icmp_eq C.1 (tgt := 33) dX12_card_28 (by decide) (by omega) (by omega) (fun hc7 => ?_) (fun hc7 => ?_)
      · replace hF := hF.to (if_pos hc7)
        refine x_aload_n C.1 dX12_card_33 0 rfl ?_
        refine x_getA C (N := 33) (i := 0) (by decide) rfl vc_X12 wx_X12 0 (by decide) wf_X12_7 (a := 1) rfl dX12_card_34 ?_
        refine x_bipush C.1 (n := 20) dX12_card_37 ?_
        refine x_iload_n C.1 dX12_card_39 1 rfl ?_
        refine x_iadd C.1 (v := x1 + 20) (by omega) dX12_card_40 ?_
        refine x_iload_n C.1 dX12_card_41 2 rfl ?_
        refine x_if_eq C.1 (tgt := 50) dX12_card_42 (by decide) (by omega) (fun hc8 => ?_) (fun hc8 => ?_)
        · replace hF := hF.to (if_pos hc8)
          refine x_bipush C.1 (n := -2) dX12_card_50 ?_
          refine x_iast C (N := 33) (i := 1) (q := x1 + 20) (a := (-2)) (by decide) rfl (by omega) (by decide) dX12_card_52 ?_
          refine x_gV ?_
          intro V9 hV9
          have hI9 : MI G V9 := hI.up hV9 (rgN_60 (Or.inl rfl) (by omega)) (by decide) rfl (Or.inr (by omega))
          have hB9 := hB.up hV9 (by rw [mkey_r (by decide)]; rfl)
          replace hF := hF.to (rdb_e (z := V9) hV9.symm)
          refine x_iconst C.1 (n := 1) dX12_card_53 ?_
          exact x_zret (S := (Nat → Nat → Int)) (post := (fun a (u : Nat → Nat → Int) => MI G u ∧ FBm 36893488147419103232 V u ∧ (f_m_card x1 x2 V J Rr) (a, u))) (w1 := (fun u : Nat → Nat → Int => MW cy ad u J Rr)) (a := 1) C hr rfl dX12_card_54 (by decide) V9 rfl ⟨hI9, hB9, hF _ rfl⟩
        · replace hF := hF.to (if_neg hc8)
          refine x_bipush C.1 (n := -3) dX12_card_45 ?_
          refine x_goto C.1 (tgt := 52) dX12_card_47 (by decide) ?_
          refine x_iast C (N := 33) (i := 1) (q := x1 + 20) (a := (-3)) (by decide) rfl (by omega) (by decide) dX12_card_52 ?_
          refine x_gV ?_
          intro V10 hV10
          have hI10 : MI G V10 := hI.up hV10 (rgN_60 (Or.inl rfl) (by omega)) (by decide) rfl (Or.inr (by omega))
          have hB10 := hB.up hV10 (by rw [mkey_r (by decide)]; rfl)
          replace hF := hF.to (rdb_e (z := V10) hV10.symm)
          refine x_iconst C.1 (n := 1) dX12_card_53 ?_
          exact x_zret (S := (Nat → Nat → Int)) (post := (fun a (u : Nat → Nat → Int) => MI G u ∧ FBm 36893488147419103232 V u ∧ (f_m_card x1 x2 V J Rr) (a, u))) (w1 := (fun u : Nat → Nat → Int => MW cy ad u J Rr)) (a := 1) C hr rfl dX12_card_54 (by decide) V10 rfl ⟨hI10, hB10, hF _ rfl⟩
      · replace hF := hF.to (if_neg hc7)
        refine x_iconst C.1 (n := 0) dX12_card_31 ?_
        exact x_zret (S := (Nat → Nat → Int)) (post := (fun a (u : Nat → Nat → Int) => MI G u ∧ FBm 36893488147419103232 V u ∧ (f_m_card x1 x2 V J Rr) (a, u))) (w1 := (fun u : Nat → Nat → Int => MW cy ad u J Rr)) (a := 0) C hr rfl dX12_card_32 (by decide) V rfl ⟨hI, hB, hF _ rfl⟩
    · refine x_icmp_ne C.1 (tgt := 26) dX12_card_19 (by decide) (by omega) (by decide) (fun hc11 => ?_) (fun hc11 => ?_)
      · replace hF := hF.to (if_pos hc11)
        refine x_iconst C.1 (n := 0) dX12_card_26 ?_
        exact jn6 0 ⟨⟨by decide, by decide⟩, hF⟩
      · replace hF := hF.to (if_neg (fun hh => hh hc11))
        refine x_iconst C.1 (n := 1) dX12_card_22 ?_
        refine x_goto C.1 (tgt := 27) dX12_card_23 (by decide) ?_
        exact jn6 1 ⟨⟨by decide, by decide⟩, hF⟩
theorem hd_yX12_lives : yX12_lives.cls ≠ "java/lang/invoke/MethodHandle" ∧ yX12_lives.cls ≠ "java/lang/invoke/VarHandle" ∧ (parseMethodDescriptor yX12_lives.desc).map (fun d => d.parameters.length) = some 1 := by decide +kernel
theorem hd_yX12_min : yX12_min.cls ≠ "java/lang/invoke/MethodHandle" ∧ yX12_min.cls ≠ "java/lang/invoke/VarHandle" ∧ (parseMethodDescriptor yX12_min.desc).map (fun d => d.parameters.length) = some 2 := by decide +kernel
theorem dX12_pour_0 : decode cX12_pour 0 = .ok (.aload_n 0, 1) := by decide +kernel
theorem dX12_pour_1 : decode cX12_pour 1 = .ok (.iload_n 1, 1) := by decide +kernel
theorem dX12_pour_2 : decode cX12_pour 2 = .ok (.invokevirtual 130, 3) := by decide +kernel
theorem dX12_pour_5 : decode cX12_pour 5 = .ok (.ifCond .eq 13, 3) := by decide +kernel
theorem dX12_pour_8 : decode cX12_pour 8 = .ok (.iload_n 2, 1) := by decide +kernel
theorem dX12_pour_9 : decode cX12_pour 9 = .ok (.iconst 0, 1) := by decide +kernel
theorem dX12_pour_10 : decode cX12_pour 10 = .ok (.bipush 24, 2) := by decide +kernel
theorem dX12_pour_12 : decode cX12_pour 12 = .ok (.invokestatic 126, 3) := by decide +kernel
theorem dX12_pour_15 : decode cX12_pour 15 = .ok (.ifCond .ne 5, 3) := by decide +kernel
theorem dX12_pour_18 : decode cX12_pour 18 = .ok (.iconst (-1), 1) := by decide +kernel
theorem dX12_pour_19 : decode cX12_pour 19 = .ok (.ireturn, 1) := by decide +kernel
theorem dX12_pour_20 : decode cX12_pour 20 = .ok (.aload_n 0, 1) := by decide +kernel
theorem dX12_pour_21 : decode cX12_pour 21 = .ok (.getfield 7, 3) := by decide +kernel
theorem dX12_pour_24 : decode cX12_pour 24 = .ok (.iconst 4, 1) := by decide +kernel
theorem dX12_pour_25 : decode cX12_pour 25 = .ok (.iload_n 1, 1) := by decide +kernel
theorem dX12_pour_26 : decode cX12_pour 26 = .ok (.iadd, 1) := by decide +kernel
theorem dX12_pour_27 : decode cX12_pour 27 = .ok (.aload_n 0, 1) := by decide +kernel
theorem dX12_pour_28 : decode cX12_pour 28 = .ok (.getfield 7, 3) := by decide +kernel
theorem dX12_pour_31 : decode cX12_pour 31 = .ok (.iconst 0, 1) := by decide +kernel
theorem dX12_pour_32 : decode cX12_pour 32 = .ok (.iload_n 1, 1) := by decide +kernel
theorem dX12_pour_33 : decode cX12_pour 33 = .ok (.iadd, 1) := by decide +kernel
theorem dX12_pour_34 : decode cX12_pour 34 = .ok (.iaload, 1) := by decide +kernel
theorem dX12_pour_35 : decode cX12_pour 35 = .ok (.aload_n 0, 1) := by decide +kernel
theorem dX12_pour_36 : decode cX12_pour 36 = .ok (.getfield 7, 3) := by decide +kernel
theorem dX12_pour_39 : decode cX12_pour 39 = .ok (.iconst 4, 1) := by decide +kernel
theorem dX12_pour_40 : decode cX12_pour 40 = .ok (.iload_n 1, 1) := by decide +kernel
theorem dX12_pour_41 : decode cX12_pour 41 = .ok (.iadd, 1) := by decide +kernel
theorem dX12_pour_42 : decode cX12_pour 42 = .ok (.iaload, 1) := by decide +kernel
theorem dX12_pour_43 : decode cX12_pour 43 = .ok (.iload_n 2, 1) := by decide +kernel
theorem dX12_pour_44 : decode cX12_pour 44 = .ok (.iadd, 1) := by decide +kernel
theorem dX12_pour_45 : decode cX12_pour 45 = .ok (.invokestatic 133, 3) := by decide +kernel
theorem dX12_pour_48 : decode cX12_pour 48 = .ok (.iastore, 1) := by decide +kernel
theorem dX12_pour_49 : decode cX12_pour 49 = .ok (.aload_n 0, 1) := by decide +kernel
theorem dX12_pour_50 : decode cX12_pour 50 = .ok (.getfield 7, 3) := by decide +kernel
theorem dX12_pour_53 : decode cX12_pour 53 = .ok (.iconst 4, 1) := by decide +kernel
theorem dX12_pour_54 : decode cX12_pour 54 = .ok (.iload_n 1, 1) := by decide +kernel
theorem dX12_pour_55 : decode cX12_pour 55 = .ok (.iadd, 1) := by decide +kernel
theorem dX12_pour_56 : decode cX12_pour 56 = .ok (.iaload, 1) := by decide +kernel
theorem dX12_pour_57 : decode cX12_pour 57 = .ok (.ireturn, 1) := by decide +kernel
set_option maxRecDepth 100000 in
def f_m_pour (x1 : Int) (x2 : Int) (V : Nat → Nat → Int) (J : Nat → Nat → Int) (Rr : Nat → Nat → Nat) : (Int × (Nat → Nat → Int)) → Prop :=
  calR (f_m_lives x1 V J Rr) fun z1 => fct (0 ≤ z1 ∧ z1 ≤ 1) <| (if z1 = 0 then rtn ((-1), V) else rdb (V 1 ((x1 + 12).toNat)) fun z4 => fct (0 ≤ z4 ∧ z4 ≤ 8) <| rdb (V 1 ((x1 + 16).toNat)) fun z5 => fct (0 ≤ z5 ∧ z5 ≤ 8) <| calR (f_m_in x2 0 24) fun z6 => fct (0 ≤ z6 ∧ z6 ≤ 1) <| (if ¬ z6 = 0 then rdb (V 1 x1.toNat) fun z9 => fct (0 ≤ z9 ∧ z9 ≤ 24) <| rdb (V 1 ((x1 + 4).toNat)) fun z10 => fct (0 ≤ z10 ∧ z10 ≤ 24) <| calR (f_m_min z9 (z10 + x2)) fun z11 => rdb (up2 V 1 ((x1 + 4).toNat) z11) fun V13 => rtn (z11, V13) else rtn ((-1), V)))
set_option maxHeartbeats 8000000 in
set_option maxRecDepth 100000 in
theorem m_pour (l : Launch) (D : va_G) (cy : Nat → ClassId) (ad : Nat → Nat) (G : Nat → Nat → Int) (V J : Nat → Nat → Int) (Rr : Nat → Nat → Nat) (hI : MI G V) (hJ : VJ J) (hR : MR Rr) (x1 : Int) (bx1 : -2147483648 ≤ x1 ∧ x1 ≤ 2147483647) (x2 : Int) (bx2 : -2147483648 ≤ x2 ∧ x2 ≤ 2147483647) : xMi l D (xTY cy) yX12_pour cX12_pour 3 (some .int) 3 63 0 0 [.ref (ad 0), vI x1, vI x2] (MW cy ad V J Rr) (fun u : Nat → Nat → Int => MW cy ad u J Rr) (fun a (u : Nat → Nat → Int) => MI G u ∧ FBm 36893488147419103232 V u ∧ (f_m_pour x1 x2 V J Rr) (a, u)) := by
  refine xMi.mk (lv0 := [(0, .ref (ad 0)), (1, vI x1), (2, vI x2)]) (by decide) rfl (Nat.le_of_ble_eq_true rfl) (fun p e s m below meth c A C hr hnm hAe => ?_)
  have C : xC2 p s m _ meth c D A s.heap 3 cX12_pour RX12 (xTY cy) := C
  have hB : FBm 36893488147419103232 V V := FBm.rf _ _
  have hF := Imp.of_eq (f_m_pour.eq_def x1 x2 V J Rr)
  refine x_aload_n C.1 dX12_pour_0 0 rfl ?_
  refine x_iload_n C.1 dX12_pour_1 1 rfl ?_
  refine x_callVi C (As := [vI x1]) (rest := []) 0 (xw_at (N := 33) (i := 0) (by decide) rfl) vc_X12 (m_lives l D cy ad G V J Rr hI hJ hR x1 ⟨by omega, by omega⟩) (l1 := []) (l2 := []) (List.append_nil _).symm (w2 := fun _ => MW cy ad V J Rr) (fun _ => List.append_nil _) rfl wm_yX12_lives wn_X12 wl_X12_130 wi_yX12_lives we_yX12_lives hd_yX12_lives rfl ⟨Nat.le_of_ble_eq_true rfl, Nat.le_of_ble_eq_true rfl⟩ (Nat.le_of_ble_eq_true rfl) ⟨Nat.le_of_ble_eq_true rfl, Nat.le_of_ble_eq_true rfl⟩ dX12_pour_2 (fun z1 u1 bz1 h1 => ?_)
  obtain ⟨bq1, hx1_0, hFc1⟩ := h1
  replace hF := calR_i hF hFc1
  replace hF := hF.fc bq1
  refine x_if_eq C.1 (tgt := 18) dX12_pour_5 (by decide) (by omega) (fun hc2 => ?_) (fun hc2 => ?_)
  · replace hF := hF.to (if_pos hc2)
    refine x_iconst C.1 (n := -1) dX12_pour_18 ?_
    exact x_iret (S := (Nat → Nat → Int)) (post := (fun a (u : Nat → Nat → Int) => MI G u ∧ FBm 36893488147419103232 V u ∧ (f_m_pour x1 x2 V J Rr) (a, u))) (w1 := (fun u : Nat → Nat → Int => MW cy ad u J Rr)) (a := (-1)) C hr rfl dX12_pour_19 (by decide) V rfl ⟨hI, hB, hF _ rfl⟩
  · replace hF := hF.to (if_neg hc2)
    have hon3 := Sp.on hx1_0 (by omega)
    obtain ⟨z4, ez4, bz4⟩ := hI.rd 1 ((x1 + 12).toNat) (x := 0) (y := 9) (rgN_20 (Or.inl rfl) (by omega))
    have by4 : z4 ≤ 8 := by rw [← ez4, show (x1 + 12).toNat = 12 + x1.toNat by omega]; exact hon3.2.1
    replace hF := hF.to (rdb_e (z := z4) ez4)
    replace hF := hF.fc ⟨bz4.1, by4⟩
    obtain ⟨z5, ez5, bz5⟩ := hI.rd 1 ((x1 + 16).toNat) (x := 0) (y := 9) (rgN_20 (Or.inl rfl) (by omega))
    have by5 : z5 ≤ 8 := by rw [← ez5, show (x1 + 16).toNat = 16 + x1.toNat by omega]; exact hon3.2.2
    replace hF := hF.to (rdb_e (z := z5) ez5)
    replace hF := hF.fc ⟨bz5.1, by5⟩
    refine x_iload_n C.1 dX12_pour_8 2 rfl ?_
    refine x_iconst C.1 (n := 0) dX12_pour_9 ?_
    refine x_bipush C.1 (n := 24) dX12_pour_10 ?_
    refine x_callSi C (As := [vI x2, vI 0, vI 24]) (rest := []) (m_in l D cy x2 ⟨by omega, by omega⟩ 0 ⟨by decide, by decide⟩ 24 ⟨by decide, by decide⟩) (l1 := []) (l2 := _) rfl (w2 := fun _ => _) (fun _ => rfl) rfl wm_yX12_in wn_X12 wl_X12_126 wi_yX12_in hd_yX12_in rfl ⟨Nat.le_of_ble_eq_true rfl, Nat.le_of_ble_eq_true rfl⟩ (Nat.le_of_ble_eq_true rfl) ⟨Nat.le_of_ble_eq_true rfl, Nat.le_of_ble_eq_true rfl⟩ dX12_pour_12 (fun z6 u6 bz6 h6 => ?_)
    obtain ⟨bq6, hx6_0, hFc6⟩ := h6
    replace hF := calR_i hF hFc6
    replace hF := hF.fc bq6
    refine x_if_ne C.1 (tgt := 20) dX12_pour_15 (by decide) (by omega) (fun hc7 => ?_) (fun hc7 => ?_)
    · replace hF := hF.to (if_pos hc7)
      have hon8 := Sq.on hx6_0 (by omega)
      refine x_aload_n C.1 dX12_pour_20 0 rfl ?_
      refine x_getA C (N := 33) (i := 0) (by decide) rfl vc_X12 wx_X12 0 (by decide) wf_X12_7 (a := 1) rfl dX12_pour_21 ?_
      refine x_iconst C.1 (n := 4) dX12_pour_24 ?_
      refine x_iload_n C.1 dX12_pour_25 1 rfl ?_
      refine x_iadd C.1 (v := x1 + 4) (by omega) dX12_pour_26 ?_
      refine x_aload_n C.1 dX12_pour_27 0 rfl ?_
      refine x_getA C (N := 33) (i := 0) (by decide) rfl vc_X12 wx_X12 0 (by decide) wf_X12_7 (a := 1) rfl dX12_pour_28 ?_
      refine x_iconst C.1 (n := 0) dX12_pour_31 ?_
      refine x_iload_n C.1 dX12_pour_32 1 rfl ?_
      refine x_iadd C.1 (v := x1) (by omega) dX12_pour_33 ?_
      obtain ⟨z9, ez9, bz9⟩ := hI.rd 1 x1.toNat (x := 0) (y := 24) (rgN_8 (Or.inl rfl) (by omega))
      replace hF := hF.to (rdb_e (z := z9) ez9)
      replace hF := hF.fc bz9
      refine x_iald C (N := 33) (i := 1) (q := x1) (by decide) rfl (by omega) (by decide) dX12_pour_34 (a := z9) ez9 ?_
      refine x_aload_n C.1 dX12_pour_35 0 rfl ?_
      refine x_getA C (N := 33) (i := 0) (by decide) rfl vc_X12 wx_X12 0 (by decide) wf_X12_7 (a := 1) rfl dX12_pour_36 ?_
      refine x_iconst C.1 (n := 4) dX12_pour_39 ?_
      refine x_iload_n C.1 dX12_pour_40 1 rfl ?_
      refine x_iadd C.1 (v := x1 + 4) (by omega) dX12_pour_41 ?_
      obtain ⟨z10, ez10, bz10⟩ := hI.rd 1 ((x1 + 4).toNat) (x := 0) (y := 24) (rgN_8 (Or.inl rfl) (by omega))
      replace hF := hF.to (rdb_e (z := z10) ez10)
      replace hF := hF.fc bz10
      refine x_iald C (N := 33) (i := 1) (q := x1 + 4) (by decide) rfl (by omega) (by decide) dX12_pour_42 (a := z10) ez10 ?_
      refine x_iload_n C.1 dX12_pour_43 2 rfl ?_
      refine x_iadd C.1 (v := z10 + x2) (by omega) dX12_pour_44 ?_
      refine x_callSi C (As := [vI z9, vI (z10 + x2)]) (rest := [vI (x1 + 4), .ref (ad 1)]) (m_min l D cy z9 ⟨by omega, by omega⟩ (z10 + x2) ⟨by omega, by omega⟩) (l1 := []) (l2 := _) rfl (w2 := fun _ => _) (fun _ => rfl) rfl wm_yX12_min wn_X12 wl_X12_133 wi_yX12_min hd_yX12_min rfl ⟨Nat.le_of_ble_eq_true rfl, Nat.le_of_ble_eq_true rfl⟩ (Nat.le_of_ble_eq_true rfl) ⟨Nat.le_of_ble_eq_true rfl, Nat.le_of_ble_eq_true rfl⟩ dX12_pour_45 (fun z11 u11 bz11 h11 => ?_)
      obtain ⟨hx11_0, hFc11⟩ := h11
      replace hF := calR_i hF hFc11
      have bm12 : 0 ≤ z11 ∧ z11 ≤ 24 := by omega
      skip
      refine x_iast C (N := 33) (i := 1) (q := x1 + 4) (a := z11) (by decide) rfl (by omega) (by decide) dX12_pour_48 ?_
      refine x_gV ?_
      intro V13 hV13
      have hI13 : MI G V13 := hI.up hV13 (rgN_8 (Or.inl rfl) (by omega)) (by omega) rfl (Or.inr (by omega))
      have hB13 := hB.up hV13 (by rw [mkey_r (by decide)]; rfl)
      replace hF := hF.to (rdb_e (z := V13) hV13.symm)
      refine x_aload_n C.1 dX12_pour_49 0 rfl ?_
      refine x_getA C (N := 33) (i := 0) (by decide) rfl vc_X12 wx_X12 0 (by decide) wf_X12_7 (a := 1) rfl dX12_pour_50 ?_
      refine x_iconst C.1 (n := 4) dX12_pour_53 ?_
      refine x_iload_n C.1 dX12_pour_54 1 rfl ?_
      refine x_iadd C.1 (v := x1 + 4) (by omega) dX12_pour_55 ?_
      refine x_iald C (N := 33) (i := 1) (q := x1 + 4) (by decide) rfl (by omega) (by decide) dX12_pour_56 (a := z11) ((congrFun (congrFun hV13 1) ((x1 + 4).toNat)).trans (up2_s _ _ _ _)) ?_
      exact x_iret (S := (Nat → Nat → Int)) (post := (fun a (u : Nat → Nat → Int) => MI G u ∧ FBm 36893488147419103232 V u ∧ (f_m_pour x1 x2 V J Rr) (a, u))) (w1 := (fun u : Nat → Nat → Int => MW cy ad u J Rr)) (a := z11) C hr rfl dX12_pour_57 (by omega) V13 rfl ⟨hI13, hB13, hF _ rfl⟩
    · replace hF := hF.to (if_neg (fun hh => hh hc7))
      refine x_iconst C.1 (n := -1) dX12_pour_18 ?_
      exact x_iret (S := (Nat → Nat → Int)) (post := (fun a (u : Nat → Nat → Int) => MI G u ∧ FBm 36893488147419103232 V u ∧ (f_m_pour x1 x2 V J Rr) (a, u))) (w1 := (fun u : Nat → Nat → Int => MW cy ad u J Rr)) (a := (-1)) C hr rfl dX12_pour_19 (by decide) V rfl ⟨hI, hB, hF _ rfl⟩
