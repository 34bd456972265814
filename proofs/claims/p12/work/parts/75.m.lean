section
theorem hd_yX12_notes : yX12_notes.cls ≠ "java/lang/invoke/MethodHandle" ∧ yX12_notes.cls ≠ "java/lang/invoke/VarHandle" ∧ (parseMethodDescriptor yX12_notes.desc).map (fun d => d.parameters.length) = some 2 := by decide +kernel
theorem hd_yX12_waitTop : yX12_waitTop.cls ≠ "java/lang/invoke/MethodHandle" ∧ yX12_waitTop.cls ≠ "java/lang/invoke/VarHandle" ∧ (parseMethodDescriptor yX12_waitTop.desc).map (fun d => d.parameters.length) = some 0 := by decide +kernel
theorem dX12_closesSums_0 : decode cX12_closesSums 0 = .ok (.aload_n 0, 1) := by decide +kernel
theorem dX12_closesSums_1 : decode cX12_closesSums 1 = .ok (.invokevirtual 177, 3) := by decide +kernel
theorem dX12_closesSums_4 : decode cX12_closesSums 4 = .ok (.iconst 4, 1) := by decide +kernel
theorem dX12_closesSums_5 : decode cX12_closesSums 5 = .ok (.if_icmp .lt 12, 3) := by decide +kernel
theorem dX12_closesSums_8 : decode cX12_closesSums 8 = .ok (.aload_n 0, 1) := by decide +kernel
theorem dX12_closesSums_9 : decode cX12_closesSums 9 = .ok (.invokevirtual 177, 3) := by decide +kernel
theorem dX12_closesSums_12 : decode cX12_closesSums 12 = .ok (.bipush 6, 2) := by decide +kernel
theorem dX12_closesSums_14 : decode cX12_closesSums 14 = .ok (.if_icmp .le 23, 3) := by decide +kernel
theorem dX12_closesSums_17 : decode cX12_closesSums 17 = .ok (.iload_n 1, 1) := by decide +kernel
theorem dX12_closesSums_18 : decode cX12_closesSums 18 = .ok (.ifCond .eq 41, 3) := by decide +kernel
theorem dX12_closesSums_21 : decode cX12_closesSums 21 = .ok (.aload_n 0, 1) := by decide +kernel
theorem dX12_closesSums_22 : decode cX12_closesSums 22 = .ok (.invokevirtual 177, 3) := by decide +kernel
theorem dX12_closesSums_25 : decode cX12_closesSums 25 = .ok (.iconst 2, 1) := by decide +kernel
theorem dX12_closesSums_26 : decode cX12_closesSums 26 = .ok (.if_icmp .eq 11, 3) := by decide +kernel
theorem dX12_closesSums_29 : decode cX12_closesSums 29 = .ok (.aload_n 0, 1) := by decide +kernel
theorem dX12_closesSums_30 : decode cX12_closesSums 30 = .ok (.invokevirtual 177, 3) := by decide +kernel
theorem dX12_closesSums_33 : decode cX12_closesSums 33 = .ok (.iconst 3, 1) := by decide +kernel
theorem dX12_closesSums_34 : decode cX12_closesSums 34 = .ok (.if_icmp .ne 25, 3) := by decide +kernel
theorem dX12_closesSums_37 : decode cX12_closesSums 37 = .ok (.aload_n 0, 1) := by decide +kernel
theorem dX12_closesSums_38 : decode cX12_closesSums 38 = .ok (.aload_n 0, 1) := by decide +kernel
theorem dX12_closesSums_39 : decode cX12_closesSums 39 = .ok (.invokevirtual 177, 3) := by decide +kernel
theorem dX12_closesSums_42 : decode cX12_closesSums 42 = .ok (.iconst 0, 1) := by decide +kernel
theorem dX12_closesSums_43 : decode cX12_closesSums 43 = .ok (.invokevirtual 180, 3) := by decide +kernel
theorem dX12_closesSums_46 : decode cX12_closesSums 46 = .ok (.aload_n 0, 1) := by decide +kernel
theorem dX12_closesSums_47 : decode cX12_closesSums 47 = .ok (.aload_n 0, 1) := by decide +kernel
theorem dX12_closesSums_48 : decode cX12_closesSums 48 = .ok (.getfield 174, 3) := by decide +kernel
theorem dX12_closesSums_51 : decode cX12_closesSums 51 = .ok (.iconst 1, 1) := by decide +kernel
theorem dX12_closesSums_52 : decode cX12_closesSums 52 = .ok (.isub, 1) := by decide +kernel
theorem dX12_closesSums_53 : decode cX12_closesSums 53 = .ok (.putfield 174, 3) := by decide +kernel
theorem dX12_closesSums_56 : decode cX12_closesSums 56 = .ok (.goto (-56), 3) := by decide +kernel
theorem dX12_closesSums_59 : decode cX12_closesSums 59 = .ok (.return_, 1) := by decide +kernel
set_option maxRecDepth 100000 in
def f_m_closesSums (x1 : Int) (V : Nat → Nat → Int) (J : Nat → Nat → Int) (Rr : Nat → Nat → Nat) : (Nat → Nat → Int) → Prop :=
  lop1 ((V 0 11).toNat + 1) (fun rc65 (V65 : Nat → Nat → Int) => rdb (V65 0 5) fun z66 => fct (0 ≤ z66 ∧ z66 ≤ 220) <| rdb (V65 0 10) fun z67 => fct (0 ≤ z67 ∧ z67 ≤ 220) <| rdb (V65 0 11) fun z68 => fct (0 ≤ z68 ∧ z68 ≤ 220) <| calR (f_m_waitTop V65 J Rr) fun z69 => (if z69 < 4 then (if x1 = 0 then rtn V65 else calR (f_m_waitTop V65 J Rr) fun z72 => (if z72 = 2 then calR (f_m_waitTop V65 J Rr) fun z74 => calUM 590295810358705652736 V65 (f_m_notes z74 0 V65 J Rr) fun V75 => rdb (up2 V75 0 11 (z68 - 1)) fun V76 => rc65 V76 else calR (f_m_waitTop V65 J Rr) fun z77 => (if ¬ z77 = 3 then rtn V65 else calR (f_m_waitTop V65 J Rr) fun z79 => calUM 590295810358705652736 V65 (f_m_notes z79 0 V65 J Rr) fun V80 => rdb (up2 V80 0 11 (z68 - 1)) fun V81 => rc65 V81))) else calR (f_m_waitTop V65 J Rr) fun z82 => (if z82 ≤ 6 then calR (f_m_waitTop V65 J Rr) fun z84 => calUM 590295810358705652736 V65 (f_m_notes z84 0 V65 J Rr) fun V85 => rdb (up2 V85 0 11 (z68 - 1)) fun V86 => rc65 V86 else (if x1 = 0 then rtn V65 else calR (f_m_waitTop V65 J Rr) fun z88 => (if z88 = 2 then calR (f_m_waitTop V65 J Rr) fun z90 => calUM 590295810358705652736 V65 (f_m_notes z90 0 V65 J Rr) fun V91 => rdb (up2 V91 0 11 (z68 - 1)) fun V92 => rc65 V92 else calR (f_m_waitTop V65 J Rr) fun z93 => (if ¬ z93 = 3 then rtn V65 else calR (f_m_waitTop V65 J Rr) fun z95 => calUM 590295810358705652736 V65 (f_m_notes z95 0 V65 J Rr) fun V96 => rdb (up2 V96 0 11 (z68 - 1)) fun V97 => rc65 V97)))))) V
set_option maxHeartbeats 8000000 in
set_option maxRecDepth 100000 in
theorem m_closesSums (l : Launch) (D : va_G) (cy : Nat → ClassId) (ad : Nat → Nat) (G : Nat → Nat → Int) (V J : Nat → Nat → Int) (Rr : Nat → Nat → Nat) (hI : MI G V) (hJ : VJ J) (hR : MR Rr) (x1 : Int) (bx1 : 0 ≤ x1 ∧ x1 ≤ 1) (b c0 d : Int) (hS : SI b c0 d 1 V) (hb : b = 0 ∨ ¬ pio (V 6 (b - 1).toNat)) (hP : PG V) : xMv l D (xTY cy) yX12_closesSums cX12_closesSums 2 none 1 22 0 0 [.ref (ad 0), vI x1] (MW cy ad V J Rr) (fun u : Nat → Nat → Int => MW cy ad u J Rr) (fun u : Nat → Nat → Int => MI G u ∧ pCL b c0 d V u ∧ (x1 = 1 → u 0 11 = b ∨ (b < u 0 11 ∧ pdv (V 6 (u 0 11 - 1).toNat) = 14)) ∧ FBm 590295810358705654784 V u ∧ (f_m_closesSums x1 V J Rr) u) := by
  refine xMv.mk (lv0 := [(0, .ref (ad 0)), (1, vI x1)]) (by decide) rfl (Nat.le_of_ble_eq_true rfl) (fun p e s m below meth c A C hr hnm hAe => ?_)
  have C : xC2 p s m _ meth c D A s.heap 2 cX12_closesSums RX12 (xTY cy) := C
  have hB : FBm 590295810358705654784 V V := FBm.rf _ _
  have hF := Imp.of_eq (f_m_closesSums.eq_def x1 V J Rr)
  obtain ⟨bd65, hbd65, hF⟩ := lop1_ex hF
  refine x_loop (I := fun V65 : (Nat → Nat → Int) => MI G V65 ∧ FBm 590295810358705654784 V V65 ∧ pCL b c0 d V V65 ∧ (∃ nf : Nat, (V65 0 11).toNat < nf ∧ Imp (lop1 nf bd65 V65) (f_m_closesSums x1 V J Rr))) (μ := fun V65 : (Nat → Nat → Int) => (V65 0 11).toNat) (wsf := fun V65 : (Nat → Nat → Int) => MW cy ad V65 J Rr) (lvf := fun V65 : (Nat → Nat → Int) => [(0, .ref (ad 0)), (1, vI x1)]) (fun V65 hI65x ih65 => ?_) V ⟨hI, hB, (pCL.rf hS hP), ⟨_, (Nat.lt_succ_self _), hF⟩⟩ rfl rfl
  obtain ⟨hI65, hB65, hcl, nf65, hn65, hF⟩ := hI65x
  try dsimp only
  obtain ⟨nf65, rfl⟩ : ∃ mm, nf65 = mm + 1 := ⟨nf65 - 1, (Nat.succ_pred_eq_of_pos (Nat.lt_of_le_of_lt (Nat.zero_le _) hn65)).symm⟩
  replace hF := hF.to (lop1_s hbd65)
  obtain ⟨z66, ez66, bz66⟩ := hI65.rd 0 5 (x := 0) (y := 220) rfl
  replace hF := hF.to (rdb_e (z := z66) ez66)
  replace hF := hF.fc bz66
  obtain ⟨z67, ez67, bz67⟩ := hI65.rd 0 10 (x := 0) (y := 220) rfl
  replace hF := hF.to (rdb_e (z := z67) ez67)
  replace hF := hF.fc bz67
  obtain ⟨z68, ez68, bz68⟩ := hI65.rd 0 11 (x := 0) (y := 220) rfl
  replace hF := hF.to (rdb_e (z := z68) ez68)
  replace hF := hF.fc bz68
  have hc2 := hcl.1.c200 hcl.2.1
  rw [ez66, ez67, ez68] at hc2
  refine x_aload_n C.1 dX12_closesSums_0 0 rfl ?_
  refine x_callVi C (As := []) (rest := []) 0 (xw_at (N := 33) (i := 0) (by decide) rfl) vc_X12 (m_waitTop l D cy ad G V65 J Rr hI65 hJ hR ) (l1 := []) (l2 := []) (List.append_nil _).symm (w2 := fun _ => MW cy ad V65 J Rr) (fun _ => List.append_nil _) rfl wm_yX12_waitTop wn_X12 wl_X12_177 wi_yX12_waitTop we_yX12_waitTop hd_yX12_waitTop rfl ⟨Nat.le_of_ble_eq_true rfl, Nat.le_of_ble_eq_true rfl⟩ (Nat.le_of_ble_eq_true rfl) ⟨Nat.le_of_ble_eq_true rfl, Nat.le_of_ble_eq_true rfl⟩ dX12_closesSums_1 (fun z69 u69 bz69 h69 => ?_)
  obtain ⟨hx69_0, hFc69⟩ := h69
  replace hF := calR_i hF hFc69
  refine x_iconst C.1 (n := 4) dX12_closesSums_4 ?_
  refine x_icmp_lt C.1 (tgt := 17) dX12_closesSums_5 (by decide) (by omega) (by decide) (fun hc70 => ?_) (fun hc70 => ?_)
  · replace hF := hF.to (if_pos hc70)
    refine x_iload_n C.1 dX12_closesSums_17 1 rfl ?_
    refine x_if_eq C.1 (tgt := 59) dX12_closesSums_18 (by decide) (by omega) (fun hc71 => ?_) (fun hc71 => ?_)
    · replace hF := hF.to (if_pos hc71)
      exact x_vret (S := (Nat → Nat → Int)) (post := (fun u : Nat → Nat → Int => MI G u ∧ pCL b c0 d V u ∧ (x1 = 1 → u 0 11 = b ∨ (b < u 0 11 ∧ pdv (V 6 (u 0 11 - 1).toNat) = 14)) ∧ FBm 590295810358705654784 V u ∧ (f_m_closesSums x1 V J Rr) u)) (w1 := (fun u : Nat → Nat → Int => MW cy ad u J Rr)) C hr rfl dX12_closesSums_59 V65 rfl ⟨hI65, hcl, (fun h1 => hcl.top (by omega)), hB65, hF _ rfl⟩
    · replace hF := hF.to (if_neg hc71)
      refine x_aload_n C.1 dX12_closesSums_21 0 rfl ?_
      refine x_callVi C (As := []) (rest := []) 0 (xw_at (N := 33) (i := 0) (by decide) rfl) vc_X12 (m_waitTop l D cy ad G V65 J Rr hI65 hJ hR ) (l1 := []) (l2 := []) (List.append_nil _).symm (w2 := fun _ => MW cy ad V65 J Rr) (fun _ => List.append_nil _) rfl wm_yX12_waitTop wn_X12 wl_X12_177 wi_yX12_waitTop we_yX12_waitTop hd_yX12_waitTop rfl ⟨Nat.le_of_ble_eq_true rfl, Nat.le_of_ble_eq_true rfl⟩ (Nat.le_of_ble_eq_true rfl) ⟨Nat.le_of_ble_eq_true rfl, Nat.le_of_ble_eq_true rfl⟩ dX12_closesSums_22 (fun z72 u72 bz72 h72 => ?_)
      obtain ⟨hx72_0, hFc72⟩ := h72
      replace hF := calR_i hF hFc72
      refine x_iconst C.1 (n := 2) dX12_closesSums_25 ?_
      refine x_icmp_eq C.1 (tgt := 37) dX12_closesSums_26 (by decide) (by omega) (by decide) (fun hc73 => ?_) (fun hc73 => ?_)
      · replace hF := hF.to (if_pos hc73)
        refine x_aload_n C.1 dX12_closesSums_37 0 rfl ?_
        refine x_aload_n C.1 dX12_closesSums_38 0 rfl ?_
        refine x_callVi C (As := []) (rest := [.ref (ad 0)]) 0 (xw_at (N := 33) (i := 0) (by decide) rfl) vc_X12 (m_waitTop l D cy ad G V65 J Rr hI65 hJ hR ) (l1 := []) (l2 := []) (List.append_nil _).symm (w2 := fun _ => MW cy ad V65 J Rr) (fun _ => List.append_nil _) rfl wm_yX12_waitTop wn_X12 wl_X12_177 wi_yX12_waitTop we_yX12_waitTop hd_yX12_waitTop rfl ⟨Nat.le_of_ble_eq_true rfl, Nat.le_of_ble_eq_true rfl⟩ (Nat.le_of_ble_eq_true rfl) ⟨Nat.le_of_ble_eq_true rfl, Nat.le_of_ble_eq_true rfl⟩ dX12_closesSums_39 (fun z74 u74 bz74 h74 => ?_)
        obtain ⟨hx74_0, hFc74⟩ := h74
        replace hF := calR_i hF hFc74
        refine x_iconst C.1 (n := 0) dX12_closesSums_42 ?_
        have hm0 := (ptop_n (V := V65) (by omega)).1
        rw [ez68] at hm0
        refine x_callVv C (As := [vI z74, vI 0]) (rest := []) 0 (xw_at (N := 33) (i := 0) (by decide) rfl) vc_X12 (m_notes l D cy ad G V65 J Rr hI65 hJ hR z74 ⟨by omega, by omega⟩ 0 ⟨by decide, by decide⟩ (by rw [ez67]; omega)) (l1 := []) (l2 := []) (List.append_nil _).symm (w2 := fun u : Nat → Nat → Int => MW cy ad u J Rr) (fun _ => List.append_nil _) rfl wm_yX12_notes wn_X12 wl_X12_180 wi_yX12_notes we_yX12_notes hd_yX12_notes rfl ⟨Nat.le_of_ble_eq_true rfl, Nat.le_of_ble_eq_true rfl⟩ (Nat.le_of_ble_eq_true rfl) ⟨Nat.le_of_ble_eq_true rfl, Nat.le_of_ble_eq_true rfl⟩ dX12_closesSums_43 (fun V75 h75 => ?_)
        obtain ⟨hI75, hx75_0, hBc75, hFc75⟩ := h75
        replace hF := calUM_i hF hFc75 hBc75
        have hB75 := hB65.tr hBc75 (m := 590295810358705652736) rfl
        refine x_aload_n C.1 dX12_closesSums_46 0 rfl ?_
        refine x_aload_n C.1 dX12_closesSums_47 0 rfl ?_
        refine x_getI C (N := 33) (i := 0) (by decide) rfl vc_X12 wx_X12 11 (by decide) wf_X12_174 rfl dX12_closesSums_48 (a := z68) ((congrFun (congrFun hx75_0 0) (11)).trans ((up2_n _ _ (Or.inr (by decide))).trans ((up2_n _ _ (Or.inl (by decide))).trans ez68))) ?_
        refine x_iconst C.1 (n := 1) dX12_closesSums_51 ?_
        refine x_isub C.1 (v := z68 - 1) (by omega) dX12_closesSums_52 ?_
        refine x_putI C (N := 33) (i := 0) (by decide) rfl vc_X12 wx_X12 11 (by decide) wf_X12_174 tyX12 tyX12_ok nmX12 rfl (tyX12_ok 11 (by decide)) rfl dX12_closesSums_53 rfl rfl ?_
        refine x_gV ?_
        intro V76 hV76
        have hI76 : MI G V76 := hI75.up hV76 rfl (by omega) rfl (Or.inl (by decide))
        have hB76 := hB75.up hV76 rfl
        replace hF := hF.to (rdb_e (z := V76) hV76.symm)
        refine x_goto C.1 (tgt := 0) dX12_closesSums_56 (by decide) ?_
        have hm1 := ((congrFun (congrFun hV76 0) 11).trans (up2_s _ _ _ _))
        have hm2 := ez68
        have hm3 := (ptop_n (V := V65) (by omega)).1
        have hmu65 : (V76 0 11).toNat < (V65 0 11).toNat := (by omega)
        exact ih65 V76 ⟨hI76, hB76, (pCL.step hcl hb ⟨by omega, by omega⟩ (by rw [hV76, hx75_0, ← hx74_0, ez68])), ⟨nf65, Nat.lt_of_lt_of_le hmu65 (Nat.le_of_lt_succ hn65), hF⟩⟩ hmu65
      · replace hF := hF.to (if_neg hc73)
        refine x_aload_n C.1 dX12_closesSums_29 0 rfl ?_
        refine x_callVi C (As := []) (rest := []) 0 (xw_at (N := 33) (i := 0) (by decide) rfl) vc_X12 (m_waitTop l D cy ad G V65 J Rr hI65 hJ hR ) (l1 := []) (l2 := []) (List.append_nil _).symm (w2 := fun _ => MW cy ad V65 J Rr) (fun _ => List.append_nil _) rfl wm_yX12_waitTop wn_X12 wl_X12_177 wi_yX12_waitTop we_yX12_waitTop hd_yX12_waitTop rfl ⟨Nat.le_of_ble_eq_true rfl, Nat.le_of_ble_eq_true rfl⟩ (Nat.le_of_ble_eq_true rfl) ⟨Nat.le_of_ble_eq_true rfl, Nat.le_of_ble_eq_true rfl⟩ dX12_closesSums_30 (fun z77 u77 bz77 h77 => ?_)
        obtain ⟨hx77_0, hFc77⟩ := h77
        replace hF := calR_i hF hFc77
        refine x_iconst C.1 (n := 3) dX12_closesSums_33 ?_
        refine x_icmp_ne C.1 (tgt := 59) dX12_closesSums_34 (by decide) (by omega) (by decide) (fun hc78 => ?_) (fun hc78 => ?_)
        · replace hF := hF.to (if_pos hc78)
          exact x_vret (S := (Nat → Nat → Int)) (post := (fun u : Nat → Nat → Int => MI G u ∧ pCL b c0 d V u ∧ (x1 = 1 → u 0 11 = b ∨ (b < u 0 11 ∧ pdv (V 6 (u 0 11 - 1).toNat) = 14)) ∧ FBm 590295810358705654784 V u ∧ (f_m_closesSums x1 V J Rr) u)) (w1 := (fun u : Nat → Nat → Int => MW cy ad u J Rr)) C hr rfl dX12_closesSums_59 V65 rfl ⟨hI65, hcl, (fun h1 => hcl.top (by omega)), hB65, hF _ rfl⟩
        · replace hF := hF.to (if_neg (fun hh => hh hc78))
          refine x_aload_n C.1 dX12_closesSums_37 0 rfl ?_
          refine x_aload_n C.1 dX12_closesSums_38 0 rfl ?_
          refine x_callVi C (As := []) (rest := [.ref (ad 0)]) 0 (xw_at (N := 33) (i := 0) (by decide) rfl) vc_X12 (m_waitTop l D cy ad G V65 J Rr hI65 hJ hR ) (l1 := []) (l2 := []) (List.append_nil _).symm (w2 := fun _ => MW cy ad V65 J Rr) (fun _ => List.append_nil _) rfl wm_yX12_waitTop wn_X12 wl_X12_177 wi_yX12_waitTop we_yX12_waitTop hd_yX12_waitTop rfl ⟨Nat.le_of_ble_eq_true rfl, Nat.le_of_ble_eq_true rfl⟩ (Nat.le_of_ble_eq_true rfl) ⟨Nat.le_of_ble_eq_true rfl, Nat.le_of_ble_eq_true rfl⟩ dX12_closesSums_39 (fun z79 u79 bz79 h79 => ?_)
          obtain ⟨hx79_0, hFc79⟩ := h79
          replace hF := calR_i hF hFc79
          refine x_iconst C.1 (n := 0) dX12_closesSums_42 ?_
          have hm0 := (ptop_n (V := V65) (by omega)).1
          rw [ez68] at hm0
          refine x_callVv C (As := [vI z79, vI 0]) (rest := []) 0 (xw_at (N := 33) (i := 0) (by decide) rfl) vc_X12 (m_notes l D cy ad G V65 J Rr hI65 hJ hR z79 ⟨by omega, by omega⟩ 0 ⟨by decide, by decide⟩ (by rw [ez67]; omega)) (l1 := []) (l2 := []) (List.append_nil _).symm (w2 := fun u : Nat → Nat → Int => MW cy ad u J Rr) (fun _ => List.append_nil _) rfl wm_yX12_notes wn_X12 wl_X12_180 wi_yX12_notes we_yX12_notes hd_yX12_notes rfl ⟨Nat.le_of_ble_eq_true rfl, Nat.le_of_ble_eq_true rfl⟩ (Nat.le_of_ble_eq_true rfl) ⟨Nat.le_of_ble_eq_true rfl, Nat.le_of_ble_eq_true rfl⟩ dX12_closesSums_43 (fun V80 h80 => ?_)
          obtain ⟨hI80, hx80_0, hBc80, hFc80⟩ := h80
          replace hF := calUM_i hF hFc80 hBc80
          have hB80 := hB65.tr hBc80 (m := 590295810358705652736) rfl
          refine x_aload_n C.1 dX12_closesSums_46 0 rfl ?_
          refine x_aload_n C.1 dX12_closesSums_47 0 rfl ?_
          refine x_getI C (N := 33) (i := 0) (by decide) rfl vc_X12 wx_X12 11 (by decide) wf_X12_174 rfl dX12_closesSums_48 (a := z68) ((congrFun (congrFun hx80_0 0) (11)).trans ((up2_n _ _ (Or.inr (by decide))).trans ((up2_n _ _ (Or.inl (by decide))).trans ez68))) ?_
          refine x_iconst C.1 (n := 1) dX12_closesSums_51 ?_
          refine x_isub C.1 (v := z68 - 1) (by omega) dX12_closesSums_52 ?_
          refine x_putI C (N := 33) (i := 0) (by decide) rfl vc_X12 wx_X12 11 (by decide) wf_X12_174 tyX12 tyX12_ok nmX12 rfl (tyX12_ok 11 (by decide)) rfl dX12_closesSums_53 rfl rfl ?_
          refine x_gV ?_
          intro V81 hV81
          have hI81 : MI G V81 := hI80.up hV81 rfl (by omega) rfl (Or.inl (by decide))
          have hB81 := hB80.up hV81 rfl
          replace hF := hF.to (rdb_e (z := V81) hV81.symm)
          refine x_goto C.1 (tgt := 0) dX12_closesSums_56 (by decide) ?_
          have hm1 := ((congrFun (congrFun hV81 0) 11).trans (up2_s _ _ _ _))
          have hm2 := ez68
          have hm3 := (ptop_n (V := V65) (by omega)).1
          have hmu65 : (V81 0 11).toNat < (V65 0 11).toNat := (by omega)
          exact ih65 V81 ⟨hI81, hB81, (pCL.step hcl hb ⟨by omega, by omega⟩ (by rw [hV81, hx80_0, ← hx79_0, ez68])), ⟨nf65, Nat.lt_of_lt_of_le hmu65 (Nat.le_of_lt_succ hn65), hF⟩⟩ hmu65
  · replace hF := hF.to (if_neg hc70)
    refine x_aload_n C.1 dX12_closesSums_8 0 rfl ?_
    refine x_callVi C (As := []) (rest := []) 0 (xw_at (N := 33) (i := 0) (by decide) rfl) vc_X12 (m_waitTop l D cy ad G V65 J Rr hI65 hJ hR ) (l1 := []) (l2 := []) (List.append_nil _).symm (w2 := fun _ => MW cy ad V65 J Rr) (fun _ => List.append_nil _) rfl wm_yX12_waitTop wn_X12 wl_X12_177 wi_yX12_waitTop we_yX12_waitTop hd_yX12_waitTop rfl ⟨Nat.le_of_ble_eq_true rfl, Nat.le_of_ble_eq_true rfl⟩ (Nat.le_of_ble_eq_true rfl) ⟨Nat.le_of_ble_eq_true rfl, Nat.le_of_ble_eq_true rfl⟩ dX12_closesSums_9 (fun z82 u82 bz82 h82 => ?_)
    obtain ⟨hx82_0, hFc82⟩ := h82
    replace hF := calR_i hF hFc82
    refine x_bipush C.1 (n := 6) dX12_closesSums_12 ?_
    refine x_icmp_le C.1 (tgt := 37) dX12_closesSums_14 (by decide) (by omega) (by decide) (fun hc83 => ?_) (fun hc83 => ?_)
    · replace hF := hF.to (if_pos hc83)
      refine x_aload_n C.1 dX12_closesSums_37 0 rfl ?_
      refine x_aload_n C.1 dX12_closesSums_38 0 rfl ?_
      refine x_callVi C (As := []) (rest := [.ref (ad 0)]) 0 (xw_at (N := 33) (i := 0) (by decide) rfl) vc_X12 (m_waitTop l D cy ad G V65 J Rr hI65 hJ hR ) (l1 := []) (l2 := []) (List.append_nil _).symm (w2 := fun _ => MW cy ad V65 J Rr) (fun _ => List.append_nil _) rfl wm_yX12_waitTop wn_X12 wl_X12_177 wi_yX12_waitTop we_yX12_waitTop hd_yX12_waitTop rfl ⟨Nat.le_of_ble_eq_true rfl, Nat.le_of_ble_eq_true rfl⟩ (Nat.le_of_ble_eq_true rfl) ⟨Nat.le_of_ble_eq_true rfl, Nat.le_of_ble_eq_true rfl⟩ dX12_closesSums_39 (fun z84 u84 bz84 h84 => ?_)
      obtain ⟨hx84_0, hFc84⟩ := h84
      replace hF := calR_i hF hFc84
      refine x_iconst C.1 (n := 0) dX12_closesSums_42 ?_
      have hm0 := (ptop_n (V := V65) (by omega)).1
      rw [ez68] at hm0
      refine x_callVv C (As := [vI z84, vI 0]) (rest := []) 0 (xw_at (N := 33) (i := 0) (by decide) rfl) vc_X12 (m_notes l D cy ad G V65 J Rr hI65 hJ hR z84 ⟨by omega, by omega⟩ 0 ⟨by decide, by decide⟩ (by rw [ez67]; omega)) (l1 := []) (l2 := []) (List.append_nil _).symm (w2 := fun u : Nat → Nat → Int => MW cy ad u J Rr) (fun _ => List.append_nil _) rfl wm_yX12_notes wn_X12 wl_X12_180 wi_yX12_notes we_yX12_notes hd_yX12_notes rfl ⟨Nat.le_of_ble_eq_true rfl, Nat.le_of_ble_eq_true rfl⟩ (Nat.le_of_ble_eq_true rfl) ⟨Nat.le_of_ble_eq_true rfl, Nat.le_of_ble_eq_true rfl⟩ dX12_closesSums_43 (fun V85 h85 => ?_)
      obtain ⟨hI85, hx85_0, hBc85, hFc85⟩ := h85
      replace hF := calUM_i hF hFc85 hBc85
      have hB85 := hB65.tr hBc85 (m := 590295810358705652736) rfl
      refine x_aload_n C.1 dX12_closesSums_46 0 rfl ?_
      refine x_aload_n C.1 dX12_closesSums_47 0 rfl ?_
      refine x_getI C (N := 33) (i := 0) (by decide) rfl vc_X12 wx_X12 11 (by decide) wf_X12_174 rfl dX12_closesSums_48 (a := z68) ((congrFun (congrFun hx85_0 0) (11)).trans ((up2_n _ _ (Or.inr (by decide))).trans ((up2_n _ _ (Or.inl (by decide))).trans ez68))) ?_
      refine x_iconst C.1 (n := 1) dX12_closesSums_51 ?_
      refine x_isub C.1 (v := z68 - 1) (by omega) dX12_closesSums_52 ?_
      refine x_putI C (N := 33) (i := 0) (by decide) rfl vc_X12 wx_X12 11 (by decide) wf_X12_174 tyX12 tyX12_ok nmX12 rfl (tyX12_ok 11 (by decide)) rfl dX12_closesSums_53 rfl rfl ?_
      refine x_gV ?_
      intro V86 hV86
      have hI86 : MI G V86 := hI85.up hV86 rfl (by omega) rfl (Or.inl (by decide))
      have hB86 := hB85.up hV86 rfl
      replace hF := hF.to (rdb_e (z := V86) hV86.symm)
      refine x_goto C.1 (tgt := 0) dX12_closesSums_56 (by decide) ?_
      have hm1 := ((congrFun (congrFun hV86 0) 11).trans (up2_s _ _ _ _))
      have hm2 := ez68
      have hm3 := (ptop_n (V := V65) (by omega)).1
      have hmu65 : (V86 0 11).toNat < (V65 0 11).toNat := (by omega)
      exact ih65 V86 ⟨hI86, hB86, (pCL.step hcl hb ⟨by omega, by omega⟩ (by rw [hV86, hx85_0, ← hx84_0, ez68])), ⟨nf65, Nat.lt_of_lt_of_le hmu65 (Nat.le_of_lt_succ hn65), hF⟩⟩ hmu65
    · replace hF := hF.to (if_neg hc83)
      refine x_iload_n C.1 dX12_closesSums_17 1 rfl ?_
      refine x_if_eq C.1 (tgt := 59) dX12_closesSums_18 (by decide) (by omega) (fun hc87 => ?_) (fun hc87 => ?_)
      · replace hF := hF.to (if_pos hc87)
        exact x_vret (S := (Nat → Nat → Int)) (post := (fun u : Nat → Nat → Int => MI G u ∧ pCL b c0 d V u ∧ (x1 = 1 → u 0 11 = b ∨ (b < u 0 11 ∧ pdv (V 6 (u 0 11 - 1).toNat) = 14)) ∧ FBm 590295810358705654784 V u ∧ (f_m_closesSums x1 V J Rr) u)) (w1 := (fun u : Nat → Nat → Int => MW cy ad u J Rr)) C hr rfl dX12_closesSums_59 V65 rfl ⟨hI65, hcl, (fun h1 => hcl.top (by omega)), hB65, hF _ rfl⟩
      · replace hF := hF.to (if_neg hc87)
        refine x_aload_n C.1 dX12_closesSums_21 0 rfl ?_
        refine x_callVi C (As := []) (rest := []) 0 (xw_at (N := 33) (i := 0) (by decide) rfl) vc_X12 (m_waitTop l D cy ad G V65 J Rr hI65 hJ hR ) (l1 := []) (l2 := []) (List.append_nil _).symm (w2 := fun _ => MW cy ad V65 J Rr) (fun _ => List.append_nil _) rfl wm_yX12_waitTop wn_X12 wl_X12_177 wi_yX12_waitTop we_yX12_waitTop hd_yX12_waitTop rfl ⟨Nat.le_of_ble_eq_true rfl, Nat.le_of_ble_eq_true rfl⟩ (Nat.le_of_ble_eq_true rfl) ⟨Nat.le_of_ble_eq_true rfl, Nat.le_of_ble_eq_true rfl⟩ dX12_closesSums_22 (fun z88 u88 bz88 h88 => ?_)
        obtain ⟨hx88_0, hFc88⟩ := h88
        replace hF := calR_i hF hFc88
        refine x_iconst C.1 (n := 2) dX12_closesSums_25 ?_
        refine x_icmp_eq C.1 (tgt := 37) dX12_closesSums_26 (by decide) (by omega) (by decide) (fun hc89 => ?_) (fun hc89 => ?_)
        · replace hF := hF.to (if_pos hc89)
          refine x_aload_n C.1 dX12_closesSums_37 0 rfl ?_
          refine x_aload_n C.1 dX12_closesSums_38 0 rfl ?_
          refine x_callVi C (As := []) (rest := [.ref (ad 0)]) 0 (xw_at (N := 33) (i := 0) (by decide) rfl) vc_X12 (m_waitTop l D cy ad G V65 J Rr hI65 hJ hR ) (l1 := []) (l2 := []) (List.append_nil _).symm (w2 := fun _ => MW cy ad V65 J Rr) (fun _ => List.append_nil _) rfl wm_yX12_waitTop wn_X12 wl_X12_177 wi_yX12_waitTop we_yX12_waitTop hd_yX12_waitTop rfl ⟨Nat.le_of_ble_eq_true rfl, Nat.le_of_ble_eq_true rfl⟩ (Nat.le_of_ble_eq_true rfl) ⟨Nat.le_of_ble_eq_true rfl, Nat.le_of_ble_eq_true rfl⟩ dX12_closesSums_39 (fun z90 u90 bz90 h90 => ?_)
          obtain ⟨hx90_0, hFc90⟩ := h90
          replace hF := calR_i hF hFc90
          refine x_iconst C.1 (n := 0) dX12_closesSums_42 ?_
          have hm0 := (ptop_n (V := V65) (by omega)).1
          rw [ez68] at hm0
          refine x_callVv C (As := [vI z90, vI 0]) (rest := []) 0 (xw_at (N := 33) (i := 0) (by decide) rfl) vc_X12 (m_notes l D cy ad G V65 J Rr hI65 hJ hR z90 ⟨by omega, by omega⟩ 0 ⟨by decide, by decide⟩ (by rw [ez67]; omega)) (l1 := []) (l2 := []) (List.append_nil _).symm (w2 := fun u : Nat → Nat → Int => MW cy ad u J Rr) (fun _ => List.append_nil _) rfl wm_yX12_notes wn_X12 wl_X12_180 wi_yX12_notes we_yX12_notes hd_yX12_notes rfl ⟨Nat.le_of_ble_eq_true rfl, Nat.le_of_ble_eq_true rfl⟩ (Nat.le_of_ble_eq_true rfl) ⟨Nat.le_of_ble_eq_true rfl, Nat.le_of_ble_eq_true rfl⟩ dX12_closesSums_43 (fun V91 h91 => ?_)
          obtain ⟨hI91, hx91_0, hBc91, hFc91⟩ := h91
          replace hF := calUM_i hF hFc91 hBc91
          have hB91 := hB65.tr hBc91 (m := 590295810358705652736) rfl
          refine x_aload_n C.1 dX12_closesSums_46 0 rfl ?_
          refine x_aload_n C.1 dX12_closesSums_47 0 rfl ?_
          refine x_getI C (N := 33) (i := 0) (by decide) rfl vc_X12 wx_X12 11 (by decide) wf_X12_174 rfl dX12_closesSums_48 (a := z68) ((congrFun (congrFun hx91_0 0) (11)).trans ((up2_n _ _ (Or.inr (by decide))).trans ((up2_n _ _ (Or.inl (by decide))).trans ez68))) ?_
          refine x_iconst C.1 (n := 1) dX12_closesSums_51 ?_
          refine x_isub C.1 (v := z68 - 1) (by omega) dX12_closesSums_52 ?_
          refine x_putI C (N := 33) (i := 0) (by decide) rfl vc_X12 wx_X12 11 (by decide) wf_X12_174 tyX12 tyX12_ok nmX12 rfl (tyX12_ok 11 (by decide)) rfl dX12_closesSums_53 rfl rfl ?_
          refine x_gV ?_
          intro V92 hV92
          have hI92 : MI G V92 := hI91.up hV92 rfl (by omega) rfl (Or.inl (by decide))
          have hB92 := hB91.up hV92 rfl
          replace hF := hF.to (rdb_e (z := V92) hV92.symm)
          refine x_goto C.1 (tgt := 0) dX12_closesSums_56 (by decide) ?_
          have hm1 := ((congrFun (congrFun hV92 0) 11).trans (up2_s _ _ _ _))
          have hm2 := ez68
          have hm3 := (ptop_n (V := V65) (by omega)).1
          have hmu65 : (V92 0 11).toNat < (V65 0 11).toNat := (by omega)
          exact ih65 V92 ⟨hI92, hB92, (pCL.step hcl hb ⟨by omega, by omega⟩ (by rw [hV92, hx91_0, ← hx90_0, ez68])), ⟨nf65, Nat.lt_of_lt_of_le hmu65 (Nat.le_of_lt_succ hn65), hF⟩⟩ hmu65
        · replace hF := hF.to (if_neg hc89)
          refine x_aload_n C.1 dX12_closesSums_29 0 rfl ?_
          refine x_callVi C (As := []) (rest := []) 0 (xw_at (N := 33) (i := 0) (by decide) rfl) vc_X12 (m_waitTop l D cy ad G V65 J Rr hI65 hJ hR ) (l1 := []) (l2 := []) (List.append_nil _).symm (w2 := fun _ => MW cy ad V65 J Rr) (fun _ => List.append_nil _) rfl wm_yX12_waitTop wn_X12 wl_X12_177 wi_yX12_waitTop we_yX12_waitTop hd_yX12_waitTop rfl ⟨Nat.le_of_ble_eq_true rfl, Nat.le_of_ble_eq_true rfl⟩ (Nat.le_of_ble_eq_true rfl) ⟨Nat.le_of_ble_eq_true rfl, Nat.le_of_ble_eq_true rfl⟩ dX12_closesSums_30 (fun z93 u93 bz93 h93 => ?_)
          obtain ⟨hx93_0, hFc93⟩ := h93
          replace hF := calR_i hF hFc93
          refine x_iconst C.1 (n := 3) dX12_closesSums_33 ?_
          refine x_icmp_ne C.1 (tgt := 59) dX12_closesSums_34 (by decide) (by omega) (by decide) (fun hc94 => ?_) (fun hc94 => ?_)
          · replace hF := hF.to (if_pos hc94)
            exact x_vret (S := (Nat → Nat → Int)) (post := (fun u : Nat → Nat → Int => MI G u ∧ pCL b c0 d V u ∧ (x1 = 1 → u 0 11 = b ∨ (b < u 0 11 ∧ pdv (V 6 (u 0 11 - 1).toNat) = 14)) ∧ FBm 590295810358705654784 V u ∧ (f_m_closesSums x1 V J Rr) u)) (w1 := (fun u : Nat → Nat → Int => MW cy ad u J Rr)) C hr rfl dX12_closesSums_59 V65 rfl ⟨hI65, hcl, (fun h1 => hcl.top (by omega)), hB65, hF _ rfl⟩
          · replace hF := hF.to (if_neg (fun hh => hh hc94))
            refine x_aload_n C.1 dX12_closesSums_37 0 rfl ?_
            refine x_aload_n C.1 dX12_closesSums_38 0 rfl ?_
            refine x_callVi C (As := []) (rest := [.ref (ad 0)]) 0 (xw_at (N := 33) (i := 0) (by decide) rfl) vc_X12 (m_waitTop l D cy ad G V65 J Rr hI65 hJ hR ) (l1 := []) (l2 := []) (List.append_nil _).symm (w2 := fun _ => MW cy ad V65 J Rr) (fun _ => List.append_nil _) rfl wm_yX12_waitTop wn_X12 wl_X12_177 wi_yX12_waitTop we_yX12_waitTop hd_yX12_waitTop rfl ⟨Nat.le_of_ble_eq_true rfl, Nat.le_of_ble_eq_true rfl⟩ (Nat.le_of_ble_eq_true rfl) ⟨Nat.le_of_ble_eq_true rfl, Nat.le_of_ble_eq_true rfl⟩ dX12_closesSums_39 (fun z95 u95 bz95 h95 => ?_)
            obtain ⟨hx95_0, hFc95⟩ := h95
            replace hF := calR_i hF hFc95
            refine x_iconst C.1 (n := 0) dX12_closesSums_42 ?_
            have hm0 := (ptop_n (V := V65) (by omega)).1
            rw [ez68] at hm0
            refine x_callVv C (As := [vI z95, vI 0]) (rest := []) 0 (xw_at (N := 33) (i := 0) (by decide) rfl) vc_X12 (m_notes l D cy ad G V65 J Rr hI65 hJ hR z95 ⟨by omega, by omega⟩ 0 ⟨by decide, by decide⟩ (by rw [ez67]; omega)) (l1 := []) (l2 := []) (List.append_nil _).symm (w2 := fun u : Nat → Nat → Int => MW cy ad u J Rr) (fun _ => List.append_nil _) rfl wm_yX12_notes wn_X12 wl_X12_180 wi_yX12_notes we_yX12_notes hd_yX12_notes rfl ⟨Nat.le_of_ble_eq_true rfl, Nat.le_of_ble_eq_true rfl⟩ (Nat.le_of_ble_eq_true rfl) ⟨Nat.le_of_ble_eq_true rfl, Nat.le_of_ble_eq_true rfl⟩ dX12_closesSums_43 (fun V96 h96 => ?_)
            obtain ⟨hI96, hx96_0, hBc96, hFc96⟩ := h96
            replace hF := calUM_i hF hFc96 hBc96
            have hB96 := hB65.tr hBc96 (m := 590295810358705652736) rfl
            refine x_aload_n C.1 dX12_closesSums_46 0 rfl ?_
            refine x_aload_n C.1 dX12_closesSums_47 0 rfl ?_
            refine x_getI C (N := 33) (i := 0) (by decide) rfl vc_X12 wx_X12 11 (by decide) wf_X12_174 rfl dX12_closesSums_48 (a := z68) ((congrFun (congrFun hx96_0 0) (11)).trans ((up2_n _ _ (Or.inr (by decide))).trans ((up2_n _ _ (Or.inl (by decide))).trans ez68))) ?_
            refine x_iconst C.1 (n := 1) dX12_closesSums_51 ?_
            refine x_isub C.1 (v := z68 - 1) (by omega) dX12_closesSums_52 ?_
            refine x_putI C (N := 33) (i := 0) (by decide) rfl vc_X12 wx_X12 11 (by decide) wf_X12_174 tyX12 tyX12_ok nmX12 rfl (tyX12_ok 11 (by decide)) rfl dX12_closesSums_53 rfl rfl ?_
            refine x_gV ?_
            intro V97 hV97
            have hI97 : MI G V97 := hI96.up hV97 rfl (by omega) rfl (Or.inl (by decide))
            have hB97 := hB96.up hV97 rfl
            replace hF := hF.to (rdb_e (z := V97) hV97.symm)
            refine x_goto C.1 (tgt := 0) dX12_closesSums_56 (by decide) ?_
            have hm1 := ((congrFun (congrFun hV97 0) 11).trans (up2_s _ _ _ _))
            have hm2 := ez68
            have hm3 := (ptop_n (V := V65) (by omega)).1
            have hmu65 : (V97 0 11).toNat < (V65 0 11).toNat := (by omega)
            exact ih65 V97 ⟨hI97, hB97, (pCL.step hcl hb ⟨by omega, by omega⟩ (by rw [hV97, hx96_0, ← hx95_0, ez68])), ⟨nf65, Nat.lt_of_lt_of_le hmu65 (Nat.le_of_lt_succ hn65), hF⟩⟩ hmu65
theorem hd_yX12_isDigit : yX12_isDigit.cls ≠ "java/lang/invoke/MethodHandle" ∧ yX12_isDigit.cls ≠ "java/lang/invoke/VarHandle" ∧ (parseMethodDescriptor yX12_isDigit.desc).map (fun d => d.parameters.length) = some 0 := by decide +kernel
theorem dX12_readsNumber_0 : decode cX12_readsNumber 0 = .ok (.aload_n 0, 1) := by decide +kernel
theorem dX12_readsNumber_1 : decode cX12_readsNumber 1 = .ok (.getfield 144, 3) := by decide +kernel
theorem dX12_readsNumber_4 : decode cX12_readsNumber 4 = .ok (.istore_n 1, 1) := by decide +kernel
theorem dX12_readsNumber_5 : decode cX12_readsNumber 5 = .ok (.aload_n 0, 1) := by decide +kernel
theorem dX12_readsNumber_6 : decode cX12_readsNumber 6 = .ok (.iconst 0, 1) := by decide +kernel
theorem dX12_readsNumber_7 : decode cX12_readsNumber 7 = .ok (.putfield 160, 3) := by decide +kernel
theorem dX12_readsNumber_10 : decode cX12_readsNumber 10 = .ok (.aload_n 0, 1) := by decide +kernel
theorem dX12_readsNumber_11 : decode cX12_readsNumber 11 = .ok (.invokevirtual 163, 3) := by decide +kernel
theorem dX12_readsNumber_14 : decode cX12_readsNumber 14 = .ok (.ifCond .eq 55, 3) := by decide +kernel
theorem dX12_readsNumber_17 : decode cX12_readsNumber 17 = .ok (.aload_n 0, 1) := by decide +kernel
theorem dX12_readsNumber_18 : decode cX12_readsNumber 18 = .ok (.getfield 144, 3) := by decide +kernel
theorem dX12_readsNumber_21 : decode cX12_readsNumber 21 = .ok (.iload_n 1, 1) := by decide +kernel
theorem dX12_readsNumber_22 : decode cX12_readsNumber 22 = .ok (.iconst 5, 1) := by decide +kernel
theorem dX12_readsNumber_23 : decode cX12_readsNumber 23 = .ok (.iadd, 1) := by decide +kernel
theorem dX12_readsNumber_24 : decode cX12_readsNumber 24 = .ok (.if_icmp .ne 13, 3) := by decide +kernel
theorem dX12_readsNumber_27 : decode cX12_readsNumber 27 = .ok (.aload_n 0, 1) := by decide +kernel
theorem dX12_readsNumber_28 : decode cX12_readsNumber 28 = .ok (.iconst 2, 1) := by decide +kernel
theorem dX12_readsNumber_29 : decode cX12_readsNumber 29 = .ok (.aload_n 0, 1) := by decide +kernel
theorem dX12_readsNumber_30 : decode cX12_readsNumber 30 = .ok (.getfield 144, 3) := by decide +kernel
theorem dX12_readsNumber_33 : decode cX12_readsNumber 33 = .ok (.invokevirtual 157, 3) := by decide +kernel
theorem dX12_readsNumber_36 : decode cX12_readsNumber 36 = .ok (.ireturn, 1) := by decide +kernel
theorem dX12_readsNumber_37 : decode cX12_readsNumber 37 = .ok (.aload_n 0, 1) := by decide +kernel
theorem dX12_readsNumber_38 : decode cX12_readsNumber 38 = .ok (.bipush 10, 2) := by decide +kernel
theorem dX12_readsNumber_40 : decode cX12_readsNumber 40 = .ok (.aload_n 0, 1) := by decide +kernel
theorem dX12_readsNumber_41 : decode cX12_readsNumber 41 = .ok (.getfield 160, 3) := by decide +kernel
theorem dX12_readsNumber_44 : decode cX12_readsNumber 44 = .ok (.imul, 1) := by decide +kernel
theorem dX12_readsNumber_45 : decode cX12_readsNumber 45 = .ok (.aload_n 0, 1) := by decide +kernel
theorem dX12_readsNumber_46 : decode cX12_readsNumber 46 = .ok (.invokevirtual 150, 3) := by decide +kernel
theorem dX12_readsNumber_49 : decode cX12_readsNumber 49 = .ok (.iadd, 1) := by decide +kernel
theorem dX12_readsNumber_50 : decode cX12_readsNumber 50 = .ok (.bipush 48, 2) := by decide +kernel
theorem dX12_readsNumber_52 : decode cX12_readsNumber 52 = .ok (.isub, 1) := by decide +kernel
theorem dX12_readsNumber_53 : decode cX12_readsNumber 53 = .ok (.putfield 160, 3) := by decide +kernel
theorem dX12_readsNumber_56 : decode cX12_readsNumber 56 = .ok (.aload_n 0, 1) := by decide +kernel
theorem dX12_readsNumber_57 : decode cX12_readsNumber 57 = .ok (.aload_n 0, 1) := by decide +kernel
theorem dX12_readsNumber_58 : decode cX12_readsNumber 58 = .ok (.getfield 144, 3) := by decide +kernel
theorem dX12_readsNumber_61 : decode cX12_readsNumber 61 = .ok (.iconst 1, 1) := by decide +kernel
theorem dX12_readsNumber_62 : decode cX12_readsNumber 62 = .ok (.iadd, 1) := by decide +kernel
theorem dX12_readsNumber_63 : decode cX12_readsNumber 63 = .ok (.putfield 144, 3) := by decide +kernel
theorem dX12_readsNumber_66 : decode cX12_readsNumber 66 = .ok (.goto (-56), 3) := by decide +kernel
theorem dX12_readsNumber_69 : decode cX12_readsNumber 69 = .ok (.iconst 1, 1) := by decide +kernel
theorem dX12_readsNumber_70 : decode cX12_readsNumber 70 = .ok (.ireturn, 1) := by decide +kernel
set_option maxRecDepth 100000 in
def f_m_readsNumber (V : Nat → Nat → Int) (J : Nat → Nat → Int) (Rr : Nat → Nat → Nat) : (Int × (Nat → Nat → Int)) → Prop :=
  rdb (V 0 5) fun z1 => fct (0 ≤ z1 ∧ z1 ≤ 220) <| rdb (V 0 6) fun z2 => fct (0 ≤ z2 ∧ z2 ≤ 220) <| rdb (up2 V 0 8 0) fun V3 => lop1 ((V3 0 6 - V3 0 5).toNat + 1) (fun rc28 (V28 : Nat → Nat → Int) => rdb (V28 0 5) fun z29 => fct (0 ≤ z29 ∧ z29 ≤ 220) <| rdb (V28 0 6) fun z30 => fct (0 ≤ z30 ∧ z30 ≤ 220) <| rdb (V28 0 8) fun z31 => calR (f_m_isDigit V28 J Rr) fun z32 => fct (0 ≤ z32 ∧ z32 ≤ 1) <| (if z32 = 0 then rtn (1, V28) else (if ¬ z29 = z1 + 5 then calR (f_m_here V28 J Rr) fun z37 => fct (-1 ≤ z37 ∧ z37 ≤ 255) <| rdb (up2 V28 0 8 (10 * z31 + z37 - 48)) fun V38 => rdb (up2 V38 0 5 (z29 + 1)) fun V39 => rc28 V39 else calVM 128 V28 (f_m_wrongAt 2 z29 V28 J Rr) fun z40 V40 => fct (0 ≤ z40 ∧ z40 ≤ 0) <| rtn (z40, V40)))) V3
set_option maxHeartbeats 8000000 in
set_option maxRecDepth 100000 in
theorem m_readsNumber (l : Launch) (D : va_G) (cy : Nat → ClassId) (ad : Nat → Nat) (G : Nat → Nat → Int) (V J : Nat → Nat → Int) (Rr : Nat → Nat → Nat) (hI : MI G V) (hJ : VJ J) (hR : MR Rr) (hpg : V 0 5 ≤ V 0 6) : xMi l D (xTY cy) yX12_readsNumber cX12_readsNumber 2 (some .boolean) 2 40 0 0 [.ref (ad 0)] (MW cy ad V J Rr) (fun u : Nat → Nat → Int => MW cy ad u J Rr) (fun a (u : Nat → Nat → Int) => MI G u ∧ (0 ≤ a ∧ a ≤ 1) ∧ (Sp a ((0 ≤ u 0 8 ∧ u 0 8 ≤ 99999) ∧ (V 0 5 < u 0 5 ∨ ¬ (48 ≤ hrM V ∧ hrM V ≤ 57)) ∧ u 0 5 ≤ u 0 6 ∧ (∀ i k : Nat, (i ≠ 0 ∨ (k ≠ 5 ∧ k ≠ 7 ∧ k ≠ 8)) → u i k = V i k))) ∧ FBm 416 V u ∧ (f_m_readsNumber V J Rr) (a, u)) := by
  refine xMi.mk (lv0 := [(0, .ref (ad 0))]) (by decide) rfl (Nat.le_of_ble_eq_true rfl) (fun p e s m below meth c A C hr hnm hAe => ?_)
  have C : xC2 p s m _ meth c D A s.heap 2 cX12_readsNumber RX12 (xTY cy) := C
  have hB : FBm 416 V V := FBm.rf _ _
  have hF := Imp.of_eq (f_m_readsNumber.eq_def V J Rr)
  obtain ⟨z1, ez1, bz1⟩ := hI.rd 0 5 (x := 0) (y := 220) rfl
  replace hF := hF.to (rdb_e (z := z1) ez1)
  replace hF := hF.fc bz1
  obtain ⟨z2, ez2, bz2⟩ := hI.rd 0 6 (x := 0) (y := 220) rfl
  replace hF := hF.to (rdb_e (z := z2) ez2)
  replace hF := hF.fc bz2
  rw [ez1, ez2] at hpg
  refine x_aload_n C.1 dX12_readsNumber_0 0 rfl ?_
  refine x_getI C (N := 33) (i := 0) (by decide) rfl vc_X12 wx_X12 5 (by decide) wf_X12_144 rfl dX12_readsNumber_1 (a := z1) ez1 ?_
  refine x_istore_n C.1 (lv' := [(1, vI z1), (0, .ref (ad 0))]) dX12_readsNumber_4 (by decide) rfl ?_
  refine x_aload_n C.1 dX12_readsNumber_5 1 rfl ?_
  refine x_iconst C.1 (n := 0) dX12_readsNumber_6 ?_
  refine x_putI C (N := 33) (i := 0) (by decide) rfl vc_X12 wx_X12 8 (by decide) wf_X12_160 tyX12 tyX12_ok nmX12 rfl (tyX12_ok 8 (by decide)) rfl dX12_readsNumber_7 rfl rfl ?_
  refine x_gV ?_
  intro V3 hV3
  have hI3 : MI G V3 := hI.up hV3 rfl (by decide) rfl (Or.inl (by decide))
  have hB3 := hB.up hV3 rfl
  replace hF := hF.to (rdb_e (z := V3) hV3.symm)
  obtain ⟨bd28, hbd28, hF⟩ := lop1_ex hF
  refine x_loop (I := fun V28 : (Nat → Nat → Int) => MI G V28 ∧ FBm 416 V V28 ∧ ((V28 0 5 = V 0 5 + 0 ∧ 0 ≤ V28 0 8 ∧ V28 0 8 ≤ 0) ∨ (V28 0 5 = V 0 5 + 1 ∧ 0 ≤ V28 0 8 ∧ V28 0 8 ≤ 9) ∨ (V28 0 5 = V 0 5 + 2 ∧ 0 ≤ V28 0 8 ∧ V28 0 8 ≤ 99) ∨ (V28 0 5 = V 0 5 + 3 ∧ 0 ≤ V28 0 8 ∧ V28 0 8 ≤ 999) ∨ (V28 0 5 = V 0 5 + 4 ∧ 0 ≤ V28 0 8 ∧ V28 0 8 ≤ 9999) ∨ (V28 0 5 = V 0 5 + 5 ∧ 0 ≤ V28 0 8 ∧ V28 0 8 ≤ 99999)) ∧ V28 0 5 ≤ V28 0 6 ∧ (∀ i k : Nat, (i ≠ 0 ∨ (k ≠ 5 ∧ k ≠ 7 ∧ k ≠ 8)) → V28 i k = V i k) ∧ (V28 0 5 = V 0 5 → hrM V28 = hrM V) ∧ (∃ nf : Nat, (V28 0 6 - V28 0 5).toNat < nf ∧ Imp (lop1 nf bd28 V28) (f_m_readsNumber V J Rr))) (μ := fun V28 : (Nat → Nat → Int) => (V28 0 6 - V28 0 5).toNat) (wsf := fun V28 : (Nat → Nat → Int) => MW cy ad V28 J Rr) (lvf := fun V28 : (Nat → Nat → Int) => [(1, vI z1), (0, .ref (ad 0))]) (fun V28 hI28x ih28 => ?_) V3 ⟨hI3, hB3, (by rw [hV3, up2_s, up2_n _ _ (Or.inr (show (5 : Nat) ≠ 8 by decide))]; omega), (by rw [((congrFun (congrFun hV3 0) 5).trans ((up2_n _ _ (Or.inr (by decide))).trans ez1)), ((congrFun (congrFun hV3 0) 6).trans ((up2_n _ _ (Or.inr (by decide))).trans ez2))]; omega), (fun i k hik => (congrFun (congrFun hV3 i) k).trans (up2_n _ _ (by omega))), (fun _ => hrM_8 hV3), ⟨_, (Nat.lt_succ_self _), hF⟩⟩ rfl rfl
  obtain ⟨hI28, hB28, hd, hpl, hfr, hhr, nf28, hn28, hF⟩ := hI28x
  try dsimp only
  obtain ⟨nf28, rfl⟩ : ∃ mm, nf28 = mm + 1 := ⟨nf28 - 1, (Nat.succ_pred_eq_of_pos (Nat.lt_of_le_of_lt (Nat.zero_le _) hn28)).symm⟩
  replace hF := hF.to (lop1_s hbd28)
  obtain ⟨z29, ez29, bz29⟩ := hI28.rd 0 5 (x := 0) (y := 220) rfl
  replace hF := hF.to (rdb_e (z := z29) ez29)
  replace hF := hF.fc bz29
  obtain ⟨z30, ez30, bz30⟩ := hI28.rd 0 6 (x := 0) (y := 220) rfl
  replace hF := hF.to (rdb_e (z := z30) ez30)
  replace hF := hF.fc bz30
  obtain ⟨z31, ez31, bz31⟩ := hI28.rd 0 8 (x := -2147483648) (y := 2147483647) rfl
  replace hF := hF.to (rdb_e (z := z31) ez31)
  rw [ez29, ez31, ez1] at hd
  rw [ez29, ez30] at hpl
  refine x_aload_n C.1 dX12_readsNumber_10 1 rfl ?_
  refine x_callVi C (As := []) (rest := []) 0 (xw_at (N := 33) (i := 0) (by decide) rfl) vc_X12 (m_isDigit l D cy ad G V28 J Rr hI28 hJ hR ) (l1 := []) (l2 := []) (List.append_nil _).symm (w2 := fun _ => MW cy ad V28 J Rr) (fun _ => List.append_nil _) rfl wm_yX12_isDigit wn_X12 wl_X12_163 wi_yX12_isDigit we_yX12_isDigit hd_yX12_isDigit rfl ⟨Nat.le_of_ble_eq_true rfl, Nat.le_of_ble_eq_true rfl⟩ (Nat.le_of_ble_eq_true rfl) ⟨Nat.le_of_ble_eq_true rfl, Nat.le_of_ble_eq_true rfl⟩ dX12_readsNumber_11 (fun z32 u32 bz32 h32 => ?_)
  obtain ⟨bq32, hx32_0, hFc32⟩ := h32
  replace hF := calR_i hF hFc32
  replace hF := hF.fc bq32
  refine x_if_eq C.1 (tgt := 69) dX12_readsNumber_14 (by decide) (by omega) (fun hc33 => ?_) (fun hc33 => ?_)
  · replace hF := hF.to (if_pos hc33)
    have hof34 := Sq.off hx32_0 (by omega)
    refine x_iconst C.1 (n := 1) dX12_readsNumber_69 ?_
    exact x_zret (S := (Nat → Nat → Int)) (post := (fun a (u : Nat → Nat → Int) => MI G u ∧ (0 ≤ a ∧ a ≤ 1) ∧ (Sp a ((0 ≤ u 0 8 ∧ u 0 8 ≤ 99999) ∧ (V 0 5 < u 0 5 ∨ ¬ (48 ≤ hrM V ∧ hrM V ≤ 57)) ∧ u 0 5 ≤ u 0 6 ∧ (∀ i k : Nat, (i ≠ 0 ∨ (k ≠ 5 ∧ k ≠ 7 ∧ k ≠ 8)) → u i k = V i k))) ∧ FBm 416 V u ∧ (f_m_readsNumber V J Rr) (a, u))) (w1 := (fun u : Nat → Nat → Int => MW cy ad u J Rr)) (a := 1) C hr rfl dX12_readsNumber_70 (by decide) V28 rfl ⟨hI28, ⟨by decide, by decide⟩, (Or.inr ⟨rfl, ⟨by rw [ez31]; omega, by rw [ez31]; omega⟩, (by by_cases hq : V28 0 5 = V 0 5; have := hhr hq; right; omega; left; rw [ez29, ez1] at hq ⊢; omega), by rw [ez29, ez30]; omega, hfr⟩), hB28, hF _ rfl⟩
  · replace hF := hF.to (if_neg hc33)
    have hon35 := Sq.on hx32_0 (by omega)
    have hlt35 := hrM_lt (V := V28) (by omega)
    rw [ez29, ez30] at hlt35
    refine x_aload_n C.1 dX12_readsNumber_17 1 rfl ?_
    refine x_getI C (N := 33) (i := 0) (by decide) rfl vc_X12 wx_X12 5 (by decide) wf_X12_144 rfl dX12_readsNumber_18 (a := z29) ez29 ?_
    refine x_iload_n C.1 dX12_readsNumber_21 0 rfl ?_
    refine x_iconst C.1 (n := 5) dX12_readsNumber_22 ?_
    refine x_iadd C.1 (v := z1 + 5) (by omega) dX12_readsNumber_23 ?_
    refine x_icmp_ne C.1 (tgt := 37) dX12_readsNumber_24 (by decide) (by omega) (by omega) (fun hc36 => ?_) (fun hc36 => ?_)
    · replace hF := hF.to (if_pos hc36)
      refine x_aload_n C.1 dX12_readsNumber_37 1 rfl ?_
      refine x_bipush C.1 (n := 10) dX12_readsNumber_38 ?_
      refine x_aload_n C.1 dX12_readsNumber_40 1 rfl ?_
      refine x_getI C (N := 33) (i := 0) (by decide) rfl vc_X12 wx_X12 8 (by decide) wf_X12_160 rfl dX12_readsNumber_41 (a := z31) ez31 ?_
      refine x_imul C.1 (v := 10 * z31) (by omega) dX12_readsNumber_44 ?_
      refine x_aload_n C.1 dX12_readsNumber_45 1 rfl ?_
      refine x_callVi C (As := []) (rest := [vI (10 * z31), .ref (ad 0)]) 0 (xw_at (N := 33) (i := 0) (by decide) rfl) vc_X12 (m_here l D cy ad G V28 J Rr hI28 hJ hR ) (l1 := []) (l2 := []) (List.append_nil _).symm (w2 := fun _ => MW cy ad V28 J Rr) (fun _ => List.append_nil _) rfl wm_yX12_here wn_X12 wl_X12_150 wi_yX12_here we_yX12_here hd_yX12_here rfl ⟨Nat.le_of_ble_eq_true rfl, Nat.le_of_ble_eq_true rfl⟩ (Nat.le_of_ble_eq_true rfl) ⟨Nat.le_of_ble_eq_true rfl, Nat.le_of_ble_eq_true rfl⟩ dX12_readsNumber_46 (fun z37 u37 bz37 h37 => ?_)
      obtain ⟨bq37, hx37_0, hx37_1, hFc37⟩ := h37
      replace hF := calR_i hF hFc37
      replace hF := hF.fc bq37
      rw [ez29, ez30] at hx37_0
      refine x_iadd C.1 (v := 10 * z31 + z37) (by omega) dX12_readsNumber_49 ?_
      refine x_bipush C.1 (n := 48) dX12_readsNumber_50 ?_
      refine x_isub C.1 (v := 10 * z31 + z37 - 48) (by omega) dX12_readsNumber_52 ?_
      refine x_putI C (N := 33) (i := 0) (by decide) rfl vc_X12 wx_X12 8 (by decide) wf_X12_160 tyX12 tyX12_ok nmX12 rfl (tyX12_ok 8 (by decide)) rfl dX12_readsNumber_53 rfl rfl ?_
      refine x_gV ?_
      intro V38 hV38
      have hI38 : MI G V38 := hI28.up hV38 rfl (by omega) rfl (Or.inl (by decide))
      have hB38 := hB28.up hV38 rfl
      replace hF := hF.to (rdb_e (z := V38) hV38.symm)
      refine x_aload_n C.1 dX12_readsNumber_56 1 rfl ?_
      refine x_aload_n C.1 dX12_readsNumber_57 1 rfl ?_
      refine x_getI C (N := 33) (i := 0) (by decide) rfl vc_X12 wx_X12 5 (by decide) wf_X12_144 rfl dX12_readsNumber_58 (a := z29) ((congrFun (congrFun hV38 0) 5).trans ((up2_n _ _ (Or.inr (by decide))).trans ez29)) ?_
      refine x_iconst C.1 (n := 1) dX12_readsNumber_61 ?_
      refine x_iadd C.1 (v := z29 + 1) (by omega) dX12_readsNumber_62 ?_
      refine x_putI C (N := 33) (i := 0) (by decide) rfl vc_X12 wx_X12 5 (by decide) wf_X12_144 tyX12 tyX12_ok nmX12 rfl (tyX12_ok 5 (by decide)) rfl dX12_readsNumber_63 rfl rfl ?_
      refine x_gV ?_
      intro V39 hV39
      have hI39 : MI G V39 := hI38.up hV39 rfl (by omega) rfl (Or.inl (by decide))
      have hB39 := hB38.up hV39 rfl
      replace hF := hF.to (rdb_e (z := V39) hV39.symm)
      refine x_goto C.1 (tgt := 10) dX12_readsNumber_66 (by decide) ?_
      have hm1 := ((congrFun (congrFun hV39 0) 5).trans (up2_s _ _ _ _))
      have hm2 := ((congrFun (congrFun hV39 0) 6).trans ((up2_n _ _ (Or.inr (by decide))).trans ((congrFun (congrFun hV38 0) 6).trans ((up2_n _ _ (Or.inr (by decide))).trans ez30))))
      have hm3 := ez29
      have hm4 : V28 0 6 = z30 := ez30
      have hmu28 : (V39 0 6 - V39 0 5).toNat < (V28 0 6 - V28 0 5).toNat := (by omega)
      exact ih28 V39 ⟨hI39, hB39, (by rw [((congrFun (congrFun hV39 0) 5).trans (up2_s _ _ _ _)), ((congrFun (congrFun hV39 0) 8).trans ((up2_n _ _ (Or.inr (by decide))).trans ((congrFun (congrFun hV38 0) 8).trans (up2_s _ _ _ _)))), ez1]; rcases hd with hd | hd | hd | hd | hd | hd <;> first | exact Or.inl ⟨by omega, by omega, by omega⟩ | exact Or.inr (Or.inl ⟨by omega, by omega, by omega⟩) | exact Or.inr (Or.inr (Or.inl ⟨by omega, by omega, by omega⟩)) | exact Or.inr (Or.inr (Or.inr (Or.inl ⟨by omega, by omega, by omega⟩))) | exact Or.inr (Or.inr (Or.inr (Or.inr (Or.inl ⟨by omega, by omega, by omega⟩)))) | exact Or.inr (Or.inr (Or.inr (Or.inr (Or.inr ⟨by omega, by omega, by omega⟩)))) | (exfalso; omega)), (by rw [((congrFun (congrFun hV39 0) 5).trans (up2_s _ _ _ _)), ((congrFun (congrFun hV39 0) 6).trans ((up2_n _ _ (Or.inr (by decide))).trans ((congrFun (congrFun hV38 0) 6).trans ((up2_n _ _ (Or.inr (by decide))).trans ez30))))]; omega), (fun i k hik => (congrFun (congrFun hV39 i) k).trans ((up2_n _ _ (by omega)).trans ((congrFun (congrFun hV38 i) k).trans ((up2_n _ _ (by omega)).trans (hfr i k hik))))), (fun hq => absurd hq (by rw [((congrFun (congrFun hV39 0) 5).trans (up2_s _ _ _ _)), ez1]; omega)), ⟨nf28, Nat.lt_of_lt_of_le hmu28 (Nat.le_of_lt_succ hn28), hF⟩⟩ hmu28
    · replace hF := hF.to (if_neg (fun hh => hh hc36))
      refine x_aload_n C.1 dX12_readsNumber_27 1 rfl ?_
      refine x_iconst C.1 (n := 2) dX12_readsNumber_28 ?_
      refine x_aload_n C.1 dX12_readsNumber_29 1 rfl ?_
      refine x_getI C (N := 33) (i := 0) (by decide) rfl vc_X12 wx_X12 5 (by decide) wf_X12_144 rfl dX12_readsNumber_30 (a := z29) ez29 ?_
      refine x_callVi C (As := [vI 2, vI z29]) (rest := []) 0 (xw_at (N := 33) (i := 0) (by decide) rfl) vc_X12 (m_wrongAt l D cy ad G V28 J Rr hI28 hJ hR 2 ⟨by decide, by decide⟩ z29 ⟨by omega, by omega⟩) (l1 := []) (l2 := []) (List.append_nil _).symm (w2 := fun u : Nat → Nat → Int => MW cy ad u J Rr) (fun _ => List.append_nil _) rfl wm_yX12_wrongAt wn_X12 wl_X12_157 wi_yX12_wrongAt we_yX12_wrongAt hd_yX12_wrongAt rfl ⟨Nat.le_of_ble_eq_true rfl, Nat.le_of_ble_eq_true rfl⟩ (Nat.le_of_ble_eq_true rfl) ⟨Nat.le_of_ble_eq_true rfl, Nat.le_of_ble_eq_true rfl⟩ dX12_readsNumber_33 (fun z40 V40 bz40 h40 => ?_)
      obtain ⟨hI40, bq40, hx40_0, hBc40, hFc40⟩ := h40
      replace hF := calVM_i hF hFc40 hBc40
      replace hF := hF.fc bq40
      have hB40 := hB28.tr hBc40 (m := 128) rfl
      exact x_zret (S := (Nat → Nat → Int)) (post := (fun a (u : Nat → Nat → Int) => MI G u ∧ (0 ≤ a ∧ a ≤ 1) ∧ (Sp a ((0 ≤ u 0 8 ∧ u 0 8 ≤ 99999) ∧ (V 0 5 < u 0 5 ∨ ¬ (48 ≤ hrM V ∧ hrM V ≤ 57)) ∧ u 0 5 ≤ u 0 6 ∧ (∀ i k : Nat, (i ≠ 0 ∨ (k ≠ 5 ∧ k ≠ 7 ∧ k ≠ 8)) → u i k = V i k))) ∧ FBm 416 V u ∧ (f_m_readsNumber V J Rr) (a, u))) (w1 := (fun u : Nat → Nat → Int => MW cy ad u J Rr)) (a := z40) C hr rfl dX12_readsNumber_36 (by omega) V40 rfl ⟨hI40, ⟨by omega, by omega⟩, (Or.inl (by omega)), hB40, hF _ rfl⟩
end
section
-- reading a sum: its steps
theorem pdv_m0 {s : Int} (hs : 0 ≤ s ∧ s ≤ 14) : pdv (1048576 * s) = s := by
  have := pdv_m hs (v := 0) (by omega)
  rw [Int.add_zero] at this
  exact this
theorem PG.mk {V u : Nat → Nat → Int} (h : PG V) (h5 : V 0 5 ≤ u 0 5) (h56 : u 0 5 ≤ u 0 6) (h6 : u 0 6 = V 0 6) (h11 : 0 ≤ u 0 11 ∧ u 0 11 ≤ u 0 5) (h10 : 0 ≤ u 0 10) : PG u := by
  obtain ⟨p1, p2, p3, p4, p5, p6⟩ := h
  exact ⟨by omega, h56, by omega, h11.1, h11.2, h10⟩
def pFac (b c0 d e : Int) (V u : Nat → Nat → Int) : Prop := SI b c0 d e u ∧ PG u ∧ FrS b c0 V u ∧ V 0 5 < u 0 5
theorem pFac.tr {b c0 d e : Int} {V W u : Nat → Nat → Int} (hf : FrS b c0 V W) (h : pFac b c0 d e W u) : pFac b c0 d e V u := ⟨h.1, h.2.1, hf.tr h.2.2.1, Int.lt_of_le_of_lt hf.2.2.2.2.2 h.2.2.2⟩
theorem SI.le {b c0 d e : Int} {V : Nat → Nat → Int} (h : SI b c0 d e V) : b ≤ V 0 11 ∧ c0 ≤ V 0 10 ∧ 0 ≤ b ∧ 0 ≤ c0 ∧ V 0 10 + (V 0 11 - b) + d ≤ V 0 5 := ⟨h.2.1, h.2.2.2.1, h.1, h.2.2.1, h.2.2.2.2.1⟩
theorem pushS {b c0 d e e2 : Int} {V u : Nat → Nat → Int} {x : Int} (h : SI b c0 d e V) (hP : PG V) (hlt : V 0 5 < V 0 6) (hx : (pio x ∧ e = e2 + 1) ∨ (pdv x = 14 ∧ e = e2)) (h5 : u 5 = V 5) (h6 : ∀ k : Nat, u 6 k = if k = (V 0 11).toNat then x else V 6 k) (h11 : u 0 11 = V 0 11 + 1) (hp : u 0 5 = V 0 5 + 1) (ho : ∀ k : Nat, k ≠ 5 → k ≠ 9 → k ≠ 11 → u 0 k = V 0 k) (hr : ∀ i : Nat, i ≠ 0 → i ≠ 5 → i ≠ 6 → u i = V i) : pFac b c0 d e2 V u := by
  have a := h.le
  have o10 := ho 10 (by omega) (by omega) (by omega)
  have o6 := ho 6 (by omega) (by omega) (by omega)
  have o12 := ho 12 (by omega) (by omega) (by omega)
  have hP' := hP
  obtain ⟨p1, p2, p3, p4, p5, p6⟩ := hP
  exact ⟨h.push hx h5 h6 o10 h11 hp, hP'.mk (by omega) (by omega) o6 ⟨by omega, by omega⟩ (by omega), ⟨fun k _ => by rw [h5], fun k hk => by rw [h6, if_neg (by omega)], o6, o12, hr, by omega⟩, by omega⟩
theorem opnS {b c0 d e : Int} {V u : Nat → Nat → Int} {o x : Int} (h : SI b c0 d e V) (hP : PG V) (hlt : V 0 5 < V 0 6) (hx : pdv x = 14) (hu : u = up2 (up2 (up2 (up2 V 0 9 o) 6 (V 0 11).toNat x) 0 11 (V 0 11 + 1)) 0 5 (V 0 5 + 1)) : pFac b c0 d e V u := by
  subst hu
  refine pushS h hP hlt (Or.inr ⟨hx, rfl⟩) ?_ (fun k => ?_) ?_ ?_ (fun k k1 k2 k3 => ?_) (fun i i1 i2 i3 => ?_)
  · rw [up0r (by omega), up0r (by omega), up2_c _ _ (by omega), up0r (by omega)]
  · rw [up0 (Or.inl (by omega)), up0 (Or.inl (by omega))]
    by_cases q : k = (V 0 11).toNat
    · subst q; rw [up2_s, if_pos rfl]
    · rw [up2_n _ _ (Or.inr q), up0 (Or.inl (by omega)), if_neg q]
  · rw [up0 (Or.inr (by omega)), up2_s]
  · rw [up2_s]
  · rw [up0 (Or.inr k1), up0 (Or.inr k3), up2_n _ _ (Or.inl (by omega)), up0 (Or.inr k2)]
  · rw [up0r i1, up0r i1, up2_c _ _ i3, up0r i1]
theorem signS {b c0 d : Int} {V u : Nat → Nat → Int} {x : Int} (h : SI b c0 d 1 V) (hP : PG V) (hlt : V 0 5 < V 0 6) (hx : pio x) (hu : u = up2 (up2 (up2 V 6 (V 0 11).toNat x) 0 11 (V 0 11 + 1)) 0 5 (V 0 5 + 1)) : pFac b c0 d 0 V u := by
  subst hu
  refine pushS h hP hlt (Or.inl ⟨hx, rfl⟩) ?_ (fun k => ?_) ?_ ?_ (fun k k1 k2 k3 => ?_) (fun i i1 i2 i3 => ?_)
  · rw [up0r (by omega), up0r (by omega), up2_c _ _ (by omega)]
  · rw [up0 (Or.inl (by omega)), up0 (Or.inl (by omega))]
    by_cases q : k = (V 0 11).toNat
    · subst q; rw [up2_s, if_pos rfl]
    · rw [up2_n _ _ (Or.inr q), if_neg q]
  · rw [up0 (Or.inr (by omega)), up2_s]
  · rw [up2_s]
  · rw [up0 (Or.inr k1), up0 (Or.inr k3), up2_n _ _ (Or.inl (by omega))]
  · rw [up0r i1, up0r i1, up2_c _ _ i3]
theorem popS {b c0 d : Int} {V u : Nat → Nat → Int} {o : Int} (h : SI b c0 d 1 V) (hP : PG V) (hlt : V 0 5 < V 0 6) (hgt : b < V 0 11) (ht : pdv (V 6 (V 0 11 - 1).toNat) = 14) (hu : u = up2 (up2 (up2 V 0 11 (V 0 11 - 1)) 0 9 o) 0 5 (V 0 5 + 1)) : pFac b c0 d 1 V u := by
  have a := h.le
  have u5 : u 5 = V 5 := by rw [hu, up0r (by omega), up0r (by omega), up0r (by omega)]
  have u6 : u 6 = V 6 := by rw [hu, up0r (by omega), up0r (by omega), up0r (by omega)]
  have ui : ∀ i : Nat, i ≠ 0 → u i = V i := fun i hi => by rw [hu, up0r hi, up0r hi, up0r hi]
  have u11 : u 0 11 = V 0 11 - 1 := by rw [hu, up0 (Or.inr (by omega)), up0 (Or.inr (by omega)), up2_s]
  have up : u 0 5 = V 0 5 + 1 := by rw [hu, up2_s]
  have uo : ∀ k : Nat, k ≠ 5 → k ≠ 9 → k ≠ 11 → u 0 k = V 0 k := fun k k1 k2 k3 => by rw [hu, up0 (Or.inr k1), up0 (Or.inr k2), up0 (Or.inr k3)]
  have o10 := uo 10 (by omega) (by omega) (by omega)
  have o6 := uo 6 (by omega) (by omega) (by omega)
  have o12 := uo 12 (by omega) (by omega) (by omega)
  clear hu
  have hP' := hP
  obtain ⟨p1, p2, p3, p4, p5, p6⟩ := hP
  exact ⟨h.pop14 ht hgt u5 u6 o10 u11 (by omega), hP'.mk (by omega) (by omega) o6 ⟨by omega, by omega⟩ (by omega), ⟨fun k _ => by rw [u5], fun k _ => by rw [u6], o6, o12, fun i i1 _ _ => ui i i1, by omega⟩, by omega⟩
theorem noteS {b c0 d : Int} {V u : Nat → Nat → Int} {w : Int} (h : SI b c0 d 0 V) (hP : PG V) (hw : 0 ≤ w ∧ (w / 1048576 = 0 ∨ (w / 1048576 = 1 ∧ w % 1048576 ≤ 12))) (h5 : ∀ k : Nat, u 5 k = if k = (V 0 10).toNat then w else V 5 k) (h6 : u 6 = V 6) (h10 : u 0 10 = V 0 10 + 1) (h11 : u 0 11 = V 0 11) (hp : V 0 5 < u 0 5) (h56 : u 0 5 ≤ u 0 6) (ho6 : u 0 6 = V 0 6) (ho12 : u 0 12 = V 0 12) (hr : ∀ i : Nat, i ≠ 0 → i ≠ 5 → i ≠ 6 → u i = V i) : pFac b c0 d 1 V u := by
  have a := h.le
  have hn := pcn_nn (V 6) b.toNat (V 0 11 - b).toNat
  have hP' := hP
  obtain ⟨p1, p2, p3, p4, p5, p6⟩ := hP
  refine ⟨SI.note h rfl h5 h6 h10 h11 (by clear hw; omega) ⟨hw.1, by clear hw; omega, by clear hw; omega, ?_⟩, hP'.mk (by clear hw; omega) h56 ho6 ⟨by clear hw; omega, by clear hw; omega⟩ (by clear hw; omega), ⟨fun k hk => by rw [h5, if_neg (by clear hw; omega)], fun k _ => by rw [h6], ho6, ho12, hr, by clear hw; omega⟩, hp⟩
  rcases hw.2 with q | q
  · exact Or.inl ⟨q, by clear hw q; omega⟩
  · exact Or.inr (Or.inl ⟨q.1, q.2, by clear hw q; omega⟩)
theorem facNum {b c0 d : Int} {V W u : Nat → Nat → Int} {v : Int} (h : SI b c0 d 0 V) (hP : PG V) (hfr : ∀ i k : Nat, (i ≠ 0 ∨ (k ≠ 5 ∧ k ≠ 7 ∧ k ≠ 8)) → W i k = V i k) (hlt : V 0 5 < W 0 5) (h56 : W 0 5 ≤ W 0 6) (hv : 0 ≤ v ∧ v ≤ 99999) (hu : u = up2 (up2 W 5 (W 0 10).toNat (1048576 * 0 + v)) 0 10 (W 0 10 + 1)) : pFac b c0 d 1 V u := by
  have o : ∀ k : Nat, k ≠ 5 → k ≠ 7 → k ≠ 8 → k ≠ 10 → u 0 k = V 0 k := fun k k1 k2 k3 k4 => by rw [hu, up0 (Or.inr k4), up2_n _ _ (Or.inl (by omega)), hfr 0 k (Or.inr ⟨k1, k2, k3⟩)]
  have w10 : W 0 10 = V 0 10 := hfr 0 10 (Or.inr (by omega))
  have w5 : u 0 5 = W 0 5 := by rw [hu, up0 (Or.inr (by omega)), up2_n _ _ (Or.inl (by omega))]
  have w6 : u 0 6 = W 0 6 := by rw [hu, up0 (Or.inr (by omega)), up2_n _ _ (Or.inl (by omega))]
  refine noteS (w := 1048576 * 0 + v) h hP ⟨by omega, Or.inl (by omega)⟩ (fun k => ?_) ?_ ?_ (o 11 (by omega) (by omega) (by omega) (by omega)) (by rw [w5]; exact hlt) (by rw [w5, w6]; exact h56) (o 6 (by omega) (by omega) (by omega) (by omega)) (o 12 (by omega) (by omega) (by omega) (by omega)) (fun i i1 i2 i3 => ?_)
  · rw [hu, up0 (Or.inl (by omega)), w10]
    by_cases q : k = (V 0 10).toNat
    · subst q; rw [up2_s, if_pos rfl]
    · rw [up2_n _ _ (Or.inr q), if_neg q, hfr 5 k (Or.inl (by omega))]
  · rw [hu, up0r (by omega), up2_c _ _ (by omega)]; funext k; exact hfr 6 k (Or.inl (by omega))
  · rw [hu, up2_s, w10]
  · rw [hu, up0r i1, up2_c _ _ i2]; funext k; exact hfr i k (Or.inl i1)
theorem facLet {b c0 d : Int} {V u : Nat → Nat → Int} {v : Int} (h : SI b c0 d 0 V) (hP : PG V) (hlt : V 0 5 < V 0 6) (hv : 0 ≤ v ∧ v ≤ 12) (hu : u = up2 (up2 (up2 V 5 (V 0 10).toNat (1048576 * 1 + v)) 0 10 (V 0 10 + 1)) 0 5 (V 0 5 + 1)) : pFac b c0 d 1 V u := by
  have o : ∀ k : Nat, k ≠ 5 → k ≠ 10 → u 0 k = V 0 k := fun k k1 k4 => by rw [hu, up0 (Or.inr k1), up0 (Or.inr k4), up2_n _ _ (Or.inl (by omega))]
  have w5 : u 0 5 = V 0 5 + 1 := by rw [hu, up2_s]
  have w6 : u 0 6 = V 0 6 := o 6 (by omega) (by omega)
  refine noteS (w := 1048576 * 1 + v) h hP ⟨by omega, Or.inr ⟨by omega, by omega⟩⟩ (fun k => ?_) ?_ ?_ (o 11 (by omega) (by omega)) (by omega) (by omega) w6 (o 12 (by omega) (by omega)) (fun i i1 i2 i3 => ?_)
  · rw [hu, up0 (Or.inl (by omega)), up0 (Or.inl (by omega))]
    by_cases q : k = (V 0 10).toNat
    · subst q; rw [up2_s, if_pos rfl]
    · rw [up2_n _ _ (Or.inr q), if_neg q]
  · rw [hu, up0r (by omega), up0r (by omega), up2_c _ _ (by omega)]
  · rw [hu, up0 (Or.inr (by omega)), up2_s]
  · rw [hu, up0r i1, up0r i1, up2_c _ _ i2]
/-- a sum was read -/
def pSum (V u : Nat → Nat → Int) : Prop := psl (u 5) (V 0 10) (u 0 10) 1 ∧ V 0 10 ≤ u 0 10 ∧ u 0 11 = V 0 11 ∧ u 0 10 - V 0 10 ≤ u 0 5 - V 0 5 ∧ PG u ∧ FrS (V 0 11) (V 0 10) V u ∧ V 0 5 < u 0 5
theorem pSum.mk {V W u : Nat → Nat → Int} (hf : FrS (V 0 11) (V 0 10) V W) (hlt : V 0 5 < W 0 5) (h : pCL (V 0 11) (V 0 10) (V 0 5 - V 0 10) W u) (hend : u 0 11 = V 0 11 ∨ (V 0 11 < u 0 11 ∧ pdv (W 6 (u 0 11 - 1).toNat) = 14)) (hno : ¬ ∃ j : Nat, V 0 11 ≤ (j : Int) ∧ (j : Int) < W 0 11 ∧ pdv (W 6 j) = 14) : pSum V u := by
  obtain ⟨hS, hP, h6, hF, h5, hj, hle⟩ := h
  have he : u 0 11 = V 0 11 := by
    rcases hend with q | q
    · exact q
    · have := hS.le
      exact absurd ⟨(u 0 11 - 1).toNat, by omega, by omega, q.2⟩ hno
  have a := hS.le
  exact ⟨hS.done he, a.2.1, he, by omega, hP, hf.tr hF, by omega⟩
theorem pCL.has {b c0 d : Int} {W u : Nat → Nat → Int} (h : pCL b c0 d W u) (hend : u 0 11 = b ∨ (b < u 0 11 ∧ pdv (W 6 (u 0 11 - 1).toNat) = 14)) (hx : ∃ j : Nat, b ≤ (j : Int) ∧ (j : Int) < W 0 11 ∧ pdv (W 6 j) = 14) : b < u 0 11 ∧ pdv (u 6 (u 0 11 - 1).toNat) = 14 := by
  obtain ⟨hS, hP, h6, hF, h5, hj, hle⟩ := h
  rcases hend with q | q
  · obtain ⟨j, j1, j2, j3⟩ := hx
    have := hj j (by omega) j2
    unfold pio at this
    omega
  · rw [h6]; exact q
theorem FrS.tio {c : Int} {V W : Nat → Nat → Int} (hf : FrS (V 0 11) c V W) (ht : V 0 11 = 0 ∨ ¬ pio (V 6 (V 0 11 - 1).toNat)) (h0 : 0 ≤ V 0 11) : V 0 11 = 0 ∨ ¬ pio (W 6 (V 0 11 - 1).toNat) := by
  by_cases q : V 0 11 = 0
  · exact Or.inl q
  · right
    rw [hf.2.1 _ (by omega)]
    exact ht.resolve_left q
end
section
theorem hd_yX12_factOf : yX12_factOf.cls ≠ "java/lang/invoke/MethodHandle" ∧ yX12_factOf.cls ≠ "java/lang/invoke/VarHandle" ∧ (parseMethodDescriptor yX12_factOf.desc).map (fun d => d.parameters.length) = some 1 := by decide +kernel
theorem hd_yX12_opens : yX12_opens.cls ≠ "java/lang/invoke/MethodHandle" ∧ yX12_opens.cls ≠ "java/lang/invoke/VarHandle" ∧ (parseMethodDescriptor yX12_opens.desc).map (fun d => d.parameters.length) = some 1 := by decide +kernel
theorem hd_yX12_readsNumber : yX12_readsNumber.cls ≠ "java/lang/invoke/MethodHandle" ∧ yX12_readsNumber.cls ≠ "java/lang/invoke/VarHandle" ∧ (parseMethodDescriptor yX12_readsNumber.desc).map (fun d => d.parameters.length) = some 0 := by decide +kernel
theorem dX12_readsFactor_0 : decode cX12_readsFactor 0 = .ok (.aload_n 0, 1) := by decide +kernel
theorem dX12_readsFactor_1 : decode cX12_readsFactor 1 = .ok (.invokevirtual 150, 3) := by decide +kernel
theorem dX12_readsFactor_4 : decode cX12_readsFactor 4 = .ok (.bipush 91, 2) := by decide +kernel
theorem dX12_readsFactor_6 : decode cX12_readsFactor 6 = .ok (.if_icmp .ne 14, 3) := by decide +kernel
theorem dX12_readsFactor_9 : decode cX12_readsFactor 9 = .ok (.aload_n 0, 1) := by decide +kernel
theorem dX12_readsFactor_10 : decode cX12_readsFactor 10 = .ok (.bipush 14, 2) := by decide +kernel
theorem dX12_readsFactor_12 : decode cX12_readsFactor 12 = .ok (.invokevirtual 184, 3) := by decide +kernel
theorem dX12_readsFactor_15 : decode cX12_readsFactor 15 = .ok (.ifCond .ne (-15), 3) := by decide +kernel
theorem dX12_readsFactor_18 : decode cX12_readsFactor 18 = .ok (.iconst 0, 1) := by decide +kernel
theorem dX12_readsFactor_19 : decode cX12_readsFactor 19 = .ok (.ireturn, 1) := by decide +kernel
theorem dX12_readsFactor_20 : decode cX12_readsFactor 20 = .ok (.aload_n 0, 1) := by decide +kernel
theorem dX12_readsFactor_21 : decode cX12_readsFactor 21 = .ok (.invokevirtual 163, 3) := by decide +kernel
theorem dX12_readsFactor_24 : decode cX12_readsFactor 24 = .ok (.ifCond .eq 23, 3) := by decide +kernel
theorem dX12_readsFactor_27 : decode cX12_readsFactor 27 = .ok (.aload_n 0, 1) := by decide +kernel
theorem dX12_readsFactor_28 : decode cX12_readsFactor 28 = .ok (.invokevirtual 187, 3) := by decide +kernel
theorem dX12_readsFactor_31 : decode cX12_readsFactor 31 = .ok (.ifCond .ne 5, 3) := by decide +kernel
theorem dX12_readsFactor_34 : decode cX12_readsFactor 34 = .ok (.iconst 0, 1) := by decide +kernel
theorem dX12_readsFactor_35 : decode cX12_readsFactor 35 = .ok (.ireturn, 1) := by decide +kernel
theorem dX12_readsFactor_36 : decode cX12_readsFactor 36 = .ok (.aload_n 0, 1) := by decide +kernel
theorem dX12_readsFactor_37 : decode cX12_readsFactor 37 = .ok (.iconst 0, 1) := by decide +kernel
theorem dX12_readsFactor_38 : decode cX12_readsFactor 38 = .ok (.aload_n 0, 1) := by decide +kernel
theorem dX12_readsFactor_39 : decode cX12_readsFactor 39 = .ok (.getfield 160, 3) := by decide +kernel
theorem dX12_readsFactor_42 : decode cX12_readsFactor 42 = .ok (.invokevirtual 180, 3) := by decide +kernel
theorem dX12_readsFactor_45 : decode cX12_readsFactor 45 = .ok (.iconst 1, 1) := by decide +kernel
theorem dX12_readsFactor_46 : decode cX12_readsFactor 46 = .ok (.ireturn, 1) := by decide +kernel
theorem dX12_readsFactor_47 : decode cX12_readsFactor 47 = .ok (.aload_n 0, 1) := by decide +kernel
theorem dX12_readsFactor_48 : decode cX12_readsFactor 48 = .ok (.invokevirtual 150, 3) := by decide +kernel
theorem dX12_readsFactor_51 : decode cX12_readsFactor 51 = .ok (.invokestatic 190, 3) := by decide +kernel
theorem dX12_readsFactor_54 : decode cX12_readsFactor 54 = .ok (.istore_n 1, 1) := by decide +kernel
theorem dX12_readsFactor_55 : decode cX12_readsFactor 55 = .ok (.iload_n 1, 1) := by decide +kernel
theorem dX12_readsFactor_56 : decode cX12_readsFactor 56 = .ok (.iconst (-1), 1) := by decide +kernel
theorem dX12_readsFactor_57 : decode cX12_readsFactor 57 = .ok (.if_icmp .ne 13, 3) := by decide +kernel
theorem dX12_readsFactor_60 : decode cX12_readsFactor 60 = .ok (.aload_n 0, 1) := by decide +kernel
theorem dX12_readsFactor_61 : decode cX12_readsFactor 61 = .ok (.iconst 1, 1) := by decide +kernel
theorem dX12_readsFactor_62 : decode cX12_readsFactor 62 = .ok (.aload_n 0, 1) := by decide +kernel
theorem dX12_readsFactor_63 : decode cX12_readsFactor 63 = .ok (.getfield 144, 3) := by decide +kernel
theorem dX12_readsFactor_66 : decode cX12_readsFactor 66 = .ok (.invokevirtual 157, 3) := by decide +kernel
theorem dX12_readsFactor_69 : decode cX12_readsFactor 69 = .ok (.ireturn, 1) := by decide +kernel
theorem dX12_readsFactor_70 : decode cX12_readsFactor 70 = .ok (.aload_n 0, 1) := by decide +kernel
theorem dX12_readsFactor_71 : decode cX12_readsFactor 71 = .ok (.iconst 1, 1) := by decide +kernel
theorem dX12_readsFactor_72 : decode cX12_readsFactor 72 = .ok (.iload_n 1, 1) := by decide +kernel
theorem dX12_readsFactor_73 : decode cX12_readsFactor 73 = .ok (.invokevirtual 180, 3) := by decide +kernel
theorem dX12_readsFactor_76 : decode cX12_readsFactor 76 = .ok (.aload_n 0, 1) := by decide +kernel
theorem dX12_readsFactor_77 : decode cX12_readsFactor 77 = .ok (.aload_n 0, 1) := by decide +kernel
theorem dX12_readsFactor_78 : decode cX12_readsFactor 78 = .ok (.getfield 144, 3) := by decide +kernel
theorem dX12_readsFactor_81 : decode cX12_readsFactor 81 = .ok (.iconst 1, 1) := by decide +kernel
theorem dX12_readsFactor_82 : decode cX12_readsFactor 82 = .ok (.iadd, 1) := by decide +kernel
theorem dX12_readsFactor_83 : decode cX12_readsFactor 83 = .ok (.putfield 144, 3) := by decide +kernel
theorem dX12_readsFactor_86 : decode cX12_readsFactor 86 = .ok (.iconst 1, 1) := by decide +kernel
theorem dX12_readsFactor_87 : decode cX12_readsFactor 87 = .ok (.ireturn, 1) := by decide +kernel
set_option maxRecDepth 100000 in
def f_m_readsFactor (V : Nat → Nat → Int) (J : Nat → Nat → Int) (Rr : Nat → Nat → Nat) : (Int × (Nat → Nat → Int)) → Prop :=
  lop1 ((V 0 6 - V 0 5).toNat + 1) (fun rc51 (V51 : Nat → Nat → Int) => rdb (V51 0 5) fun z52 => fct (0 ≤ z52 ∧ z52 ≤ 220) <| rdb (V51 0 6) fun z53 => fct (0 ≤ z53 ∧ z53 ≤ 220) <| rdb (V51 0 10) fun z54 => fct (0 ≤ z54 ∧ z54 ≤ 220) <| rdb (V51 0 11) fun z55 => fct (0 ≤ z55 ∧ z55 ≤ 220) <| calR (f_m_here V51 J Rr) fun z56 => fct (-1 ≤ z56 ∧ z56 ≤ 255) <| (if ¬ z56 = 91 then calR (f_m_isDigit V51 J Rr) fun z58 => fct (0 ≤ z58 ∧ z58 ≤ 1) <| (if z58 = 0 then calR (f_m_here V51 J Rr) fun z61 => fct (-1 ≤ z61 ∧ z61 ≤ 255) <| calR (f_m_factOf z61) fun z62 => fct (-1 ≤ z62 ∧ z62 ≤ 12) <| (if ¬ z62 = (-1) then calUM 590295810358705652736 V51 (f_m_notes 1 z62 V51 J Rr) fun V64 => rdb (up2 V64 0 5 (z52 + 1)) fun V65 => rtn (1, V65) else calVM 128 V51 (f_m_wrongAt 1 z52 V51 J Rr) fun z66 V66 => fct (0 ≤ z66 ∧ z66 ≤ 0) <| rtn (z66, V66)) else calVM 416 V51 (f_m_readsNumber V51 J Rr) fun z68 V68 => fct (0 ≤ z68 ∧ z68 ≤ 1) <| (if ¬ z68 = 0 then rdb (V68 0 5) fun z71 => fct (0 ≤ z71 ∧ z71 ≤ 220) <| rdb (V68 0 8) fun z72 => calUM 590295810358705652736 V68 (f_m_notes 0 z72 V68 J Rr) fun V73 => rtn (1, V73) else rtn (0, V68))) else calVM 1180591620717411306144 V51 (f_m_opens 14 V51 J Rr) fun z74 V74 => fct (0 ≤ z74 ∧ z74 ≤ 1) <| (if ¬ z74 = 0 then rc51 V74 else rtn (0, V74)))) V
set_option maxHeartbeats 8000000 in
set_option maxRecDepth 100000 in
theorem m_readsFactor (l : Launch) (D : va_G) (cy : Nat → ClassId) (ad : Nat → Nat) (G : Nat → Nat → Int) (V J : Nat → Nat → Int) (Rr : Nat → Nat → Nat) (hI : MI G V) (hJ : VJ J) (hR : MR Rr) (b c0 d : Int) (hS : SI b c0 d 0 V) (hP : PG V) : xMi l D (xTY cy) yX12_readsFactor cX12_readsFactor 2 (some .boolean) 3 61 0 0 [.ref (ad 0)] (MW cy ad V J Rr) (fun u : Nat → Nat → Int => MW cy ad u J Rr) (fun a (u : Nat → Nat → Int) => MI G u ∧ (0 ≤ a ∧ a ≤ 1) ∧ Sp a (pFac b c0 d 1 V u) ∧ FBm 1770887431076116959136 V u ∧ (f_m_readsFactor V J Rr) (a, u)) := by
  refine xMi.mk (lv0 := [(0, .ref (ad 0))]) (by decide) rfl (Nat.le_of_ble_eq_true rfl) (fun p e s m below meth c A C hr hnm hAe => ?_)
  have C : xC2 p s m _ meth c D A s.heap 2 cX12_readsFactor RX12 (xTY cy) := C
  have hB : FBm 1770887431076116959136 V V := FBm.rf _ _
  have hF := Imp.of_eq (f_m_readsFactor.eq_def V J Rr)
  obtain ⟨bd51, hbd51, hF⟩ := lop1_ex hF
  refine x_loop (I := fun V51 : (Nat → Nat → Int) => MI G V51 ∧ FBm 1770887431076116959136 V V51 ∧ SI b c0 d 0 V51 ∧ PG V51 ∧ FrS b c0 V V51 ∧ (∃ nf : Nat, (V51 0 6 - V51 0 5).toNat < nf ∧ Imp (lop1 nf bd51 V51) (f_m_readsFactor V J Rr))) (μ := fun V51 : (Nat → Nat → Int) => (V51 0 6 - V51 0 5).toNat) (wsf := fun V51 : (Nat → Nat → Int) => MW cy ad V51 J Rr) (lvf := fun V51 : (Nat → Nat → Int) => [(0, .ref (ad 0))]) (fun V51 hI51x ih51 => ?_) V ⟨hI, hB, hS, hP, FrS.rf, ⟨_, (Nat.lt_succ_self _), hF⟩⟩ rfl rfl
  obtain ⟨hI51, hB51, hs, hp, hf, nf51, hn51, hF⟩ := hI51x
  try dsimp only
  obtain ⟨nf51, rfl⟩ : ∃ mm, nf51 = mm + 1 := ⟨nf51 - 1, (Nat.succ_pred_eq_of_pos (Nat.lt_of_le_of_lt (Nat.zero_le _) hn51)).symm⟩
  replace hF := hF.to (lop1_s hbd51)
  obtain ⟨z52, ez52, bz52⟩ := hI51.rd 0 5 (x := 0) (y := 220) rfl
  replace hF := hF.to (rdb_e (z := z52) ez52)
  replace hF := hF.fc bz52
  obtain ⟨z53, ez53, bz53⟩ := hI51.rd 0 6 (x := 0) (y := 220) rfl
  replace hF := hF.to (rdb_e (z := z53) ez53)
  replace hF := hF.fc bz53
  obtain ⟨z54, ez54, bz54⟩ := hI51.rd 0 10 (x := 0) (y := 220) rfl
  replace hF := hF.to (rdb_e (z := z54) ez54)
  replace hF := hF.fc bz54
  obtain ⟨z55, ez55, bz55⟩ := hI51.rd 0 11 (x := 0) (y := 220) rfl
  replace hF := hF.to (rdb_e (z := z55) ez55)
  replace hF := hF.fc bz55
  have hc2 := hs.c200 hp
  rw [ez52, ez54, ez55] at hc2
  have hpz := hp
  unfold PG at hpz
  rw [ez52, ez53, ez54, ez55] at hpz
  refine x_aload_n C.1 dX12_readsFactor_0 0 rfl ?_
  refine x_callVi C (As := []) (rest := []) 0 (xw_at (N := 33) (i := 0) (by decide) rfl) vc_X12 (m_here l D cy ad G V51 J Rr hI51 hJ hR ) (l1 := []) (l2 := []) (List.append_nil _).symm (w2 := fun _ => MW cy ad V51 J Rr) (fun _ => List.append_nil _) rfl wm_yX12_here wn_X12 wl_X12_150 wi_yX12_here we_yX12_here hd_yX12_here rfl ⟨Nat.le_of_ble_eq_true rfl, Nat.le_of_ble_eq_true rfl⟩ (Nat.le_of_ble_eq_true rfl) ⟨Nat.le_of_ble_eq_true rfl, Nat.le_of_ble_eq_true rfl⟩ dX12_readsFactor_1 (fun z56 u56 bz56 h56 => ?_)
  obtain ⟨bq56, hx56_0, hx56_1, hFc56⟩ := h56
  replace hF := calR_i hF hFc56
  replace hF := hF.fc bq56
  rw [ez52, ez53] at hx56_0
  refine x_bipush C.1 (n := 91) dX12_readsFactor_4 ?_
  refine x_icmp_ne C.1 (tgt := 20) dX12_readsFactor_6 (by decide) (by omega) (by decide) (fun hc57 => ?_) (fun hc57 => ?_)
  · replace hF := hF.to (if_pos hc57)
    refine x_aload_n C.1 dX12_readsFactor_20 0 rfl ?_
    refine x_callVi C (As := []) (rest := []) 0 (xw_at (N := 33) (i := 0) (by decide) rfl) vc_X12 (m_isDigit l D cy ad G V51 J Rr hI51 hJ hR ) (l1 := []) (l2 := []) (List.append_nil _).symm (w2 := fun _ => MW cy ad V51 J Rr) (fun _ => List.append_nil _) rfl wm_yX12_isDigit wn_X12 wl_X12_163 wi_yX12_isDigit we_yX12_isDigit hd_yX12_isDigit rfl ⟨Nat.le_of_ble_eq_true rfl, Nat.le_of_ble_eq_true rfl⟩ (Nat.le_of_ble_eq_true rfl) ⟨Nat.le_of_ble_eq_true rfl, Nat.le_of_ble_eq_true rfl⟩ dX12_readsFactor_21 (fun z58 u58 bz58 h58 => ?_)
    obtain ⟨bq58, hx58_0, hFc58⟩ := h58
    replace hF := calR_i hF hFc58
    replace hF := hF.fc bq58
    refine x_if_eq C.1 (tgt := 47) dX12_readsFactor_24 (by decide) (by omega) (fun hc59 => ?_) (fun hc59 => ?_)
    · replace hF := hF.to (if_pos hc59)
      have hof60 := Sq.off hx58_0 (by omega)
      refine x_aload_n C.1 dX12_readsFactor_47 0 rfl ?_
      refine x_callVi C (As := []) (rest := []) 0 (xw_at (N := 33) (i := 0) (by decide) rfl) vc_X12 (m_here l D cy ad G V51 J Rr hI51 hJ hR ) (l1 := []) (l2 := []) (List.append_nil _).symm (w2 := fun _ => MW cy ad V51 J Rr) (fun _ => List.append_nil _) rfl wm_yX12_here wn_X12 wl_X12_150 wi_yX12_here we_yX12_here hd_yX12_here rfl ⟨Nat.le_of_ble_eq_true rfl, Nat.le_of_ble_eq_true rfl⟩ (Nat.le_of_ble_eq_true rfl) ⟨Nat.le_of_ble_eq_true rfl, Nat.le_of_ble_eq_true rfl⟩ dX12_readsFactor_48 (fun z61 u61 bz61 h61 => ?_)
      obtain ⟨bq61, hx61_0, hx61_1, hFc61⟩ := h61
      replace hF := calR_i hF hFc61
      replace hF := hF.fc bq61
      rw [ez52, ez53] at hx61_0
      refine x_callSi C (As := [vI z61]) (rest := []) (m_factOf l D cy z61 ⟨by omega, by omega⟩) (l1 := []) (l2 := _) rfl (w2 := fun _ => _) (fun _ => rfl) rfl wm_yX12_factOf wn_X12 wl_X12_190 wi_yX12_factOf hd_yX12_factOf rfl ⟨Nat.le_of_ble_eq_true rfl, Nat.le_of_ble_eq_true rfl⟩ (Nat.le_of_ble_eq_true rfl) ⟨Nat.le_of_ble_eq_true rfl, Nat.le_of_ble_eq_true rfl⟩ dX12_readsFactor_51 (fun z62 u62 bz62 h62 => ?_)
      obtain ⟨bq62, hx62_0, hFc62⟩ := h62
      replace hF := calR_i hF hFc62
      replace hF := hF.fc bq62
      refine x_istore_n C.1 (lv' := [(1, vI z62), (0, .ref (ad 0))]) dX12_readsFactor_54 (by decide) rfl ?_
      refine x_iload_n C.1 dX12_readsFactor_55 0 rfl ?_
      refine x_iconst C.1 (n := -1) dX12_readsFactor_56 ?_
      refine x_icmp_ne C.1 (tgt := 70) dX12_readsFactor_57 (by decide) (by omega) (by decide) (fun hc63 => ?_) (fun hc63 => ?_)
      · replace hF := hF.to (if_pos hc63)
        refine x_aload_n C.1 dX12_readsFactor_70 1 rfl ?_
        refine x_iconst C.1 (n := 1) dX12_readsFactor_71 ?_
        refine x_iload_n C.1 dX12_readsFactor_72 0 rfl ?_
        refine x_callVv C (As := [vI 1, vI z62]) (rest := []) 0 (xw_at (N := 33) (i := 0) (by decide) rfl) vc_X12 (m_notes l D cy ad G V51 J Rr hI51 hJ hR 1 ⟨by decide, by decide⟩ z62 ⟨by omega, by omega⟩ (by rw [ez54]; omega)) (l1 := []) (l2 := []) (List.append_nil _).symm (w2 := fun u : Nat → Nat → Int => MW cy ad u J Rr) (fun _ => List.append_nil _) rfl wm_yX12_notes wn_X12 wl_X12_180 wi_yX12_notes we_yX12_notes hd_yX12_notes rfl ⟨Nat.le_of_ble_eq_true rfl, Nat.le_of_ble_eq_true rfl⟩ (Nat.le_of_ble_eq_true rfl) ⟨Nat.le_of_ble_eq_true rfl, Nat.le_of_ble_eq_true rfl⟩ dX12_readsFactor_73 (fun V64 h64 => ?_)
        obtain ⟨hI64, hx64_0, hBc64, hFc64⟩ := h64
        replace hF := calUM_i hF hFc64 hBc64
        have hB64 := hB51.tr hBc64 (m := 590295810358705652736) rfl
        refine x_aload_n C.1 dX12_readsFactor_76 1 rfl ?_
        refine x_aload_n C.1 dX12_readsFactor_77 1 rfl ?_
        refine x_getI C (N := 33) (i := 0) (by decide) rfl vc_X12 wx_X12 5 (by decide) wf_X12_144 rfl dX12_readsFactor_78 (a := z52) ((congrFun (congrFun hx64_0 0) (5)).trans ((up2_n _ _ (Or.inr (by decide))).trans ((up2_n _ _ (Or.inl (by decide))).trans ez52))) ?_
        refine x_iconst C.1 (n := 1) dX12_readsFactor_81 ?_
        refine x_iadd C.1 (v := z52 + 1) (by omega) dX12_readsFactor_82 ?_
        refine x_putI C (N := 33) (i := 0) (by decide) rfl vc_X12 wx_X12 5 (by decide) wf_X12_144 tyX12 tyX12_ok nmX12 rfl (tyX12_ok 5 (by decide)) rfl dX12_readsFactor_83 rfl rfl ?_
        refine x_gV ?_
        intro V65 hV65
        have hI65 : MI G V65 := hI64.up hV65 rfl (by omega) rfl (Or.inl (by decide))
        have hB65 := hB64.up hV65 rfl
        replace hF := hF.to (rdb_e (z := V65) hV65.symm)
        refine x_iconst C.1 (n := 1) dX12_readsFactor_86 ?_
        exact x_zret (S := (Nat → Nat → Int)) (post := (fun a (u : Nat → Nat → Int) => MI G u ∧ (0 ≤ a ∧ a ≤ 1) ∧ Sp a (pFac b c0 d 1 V u) ∧ FBm 1770887431076116959136 V u ∧ (f_m_readsFactor V J Rr) (a, u))) (w1 := (fun u : Nat → Nat → Int => MW cy ad u J Rr)) (a := 1) C hr rfl dX12_readsFactor_87 (by decide) V65 rfl ⟨hI65, ⟨by decide, by decide⟩, (Or.inr ⟨rfl, pFac.tr hf (facLet (v := z62) hs hp (by rw [ez52, ez53]; omega) (by omega) (by rw [hV65, hx64_0, ez52]))⟩), hB65, hF _ rfl⟩
      · replace hF := hF.to (if_neg (fun hh => hh hc63))
        refine x_aload_n C.1 dX12_readsFactor_60 1 rfl ?_
        refine x_iconst C.1 (n := 1) dX12_readsFactor_61 ?_
        refine x_aload_n C.1 dX12_readsFactor_62 1 rfl ?_
        refine x_getI C (N := 33) (i := 0) (by decide) rfl vc_X12 wx_X12 5 (by decide) wf_X12_144 rfl dX12_readsFactor_63 (a := z52) ez52 ?_
        refine x_callVi C (As := [vI 1, vI z52]) (rest := []) 0 (xw_at (N := 33) (i := 0) (by decide) rfl) vc_X12 (m_wrongAt l D cy ad G V51 J Rr hI51 hJ hR 1 ⟨by decide, by decide⟩ z52 ⟨by omega, by omega⟩) (l1 := []) (l2 := []) (List.append_nil _).symm (w2 := fun u : Nat → Nat → Int => MW cy ad u J Rr) (fun _ => List.append_nil _) rfl wm_yX12_wrongAt wn_X12 wl_X12_157 wi_yX12_wrongAt we_yX12_wrongAt hd_yX12_wrongAt rfl ⟨Nat.le_of_ble_eq_true rfl, Nat.le_of_ble_eq_true rfl⟩ (Nat.le_of_ble_eq_true rfl) ⟨Nat.le_of_ble_eq_true rfl, Nat.le_of_ble_eq_true rfl⟩ dX12_readsFactor_66 (fun z66 V66 bz66 h66 => ?_)
        obtain ⟨hI66, bq66, hx66_0, hBc66, hFc66⟩ := h66
        replace hF := calVM_i hF hFc66 hBc66
        replace hF := hF.fc bq66
        have hB66 := hB51.tr hBc66 (m := 128) rfl
        exact x_zret (S := (Nat → Nat → Int)) (post := (fun a (u : Nat → Nat → Int) => MI G u ∧ (0 ≤ a ∧ a ≤ 1) ∧ Sp a (pFac b c0 d 1 V u) ∧ FBm 1770887431076116959136 V u ∧ (f_m_readsFactor V J Rr) (a, u))) (w1 := (fun u : Nat → Nat → Int => MW cy ad u J Rr)) (a := z66) C hr rfl dX12_readsFactor_69 (by omega) V66 rfl ⟨hI66, ⟨by omega, by omega⟩, (Or.inl (by omega)), hB66, hF _ rfl⟩
    · replace hF := hF.to (if_neg hc59)
      have hon67 := Sq.on hx58_0 (by omega)
      refine x_aload_n C.1 dX12_readsFactor_27 0 rfl ?_
      refine x_callVi C (As := []) (rest := []) 0 (xw_at (N := 33) (i := 0) (by decide) rfl) vc_X12 (m_readsNumber l D cy ad G V51 J Rr hI51 hJ hR (by rw [ez52, ez53]; omega)) (l1 := []) (l2 := []) (List.append_nil _).symm (w2 := fun u : Nat → Nat → Int => MW cy ad u J Rr) (fun _ => List.append_nil _) rfl wm_yX12_readsNumber wn_X12 wl_X12_187 wi_yX12_readsNumber we_yX12_readsNumber hd_yX12_readsNumber rfl ⟨Nat.le_of_ble_eq_true rfl, Nat.le_of_ble_eq_true rfl⟩ (Nat.le_of_ble_eq_true rfl) ⟨Nat.le_of_ble_eq_true rfl, Nat.le_of_ble_eq_true rfl⟩ dX12_readsFactor_28 (fun z68 V68 bz68 h68 => ?_)
      obtain ⟨hI68, bq68, hx68_0, hBc68, hFc68⟩ := h68
      replace hF := calVM_i hF hFc68 hBc68
      replace hF := hF.fc bq68
      have hB68 := hB51.tr hBc68 (m := 416) rfl
      refine x_if_ne C.1 (tgt := 36) dX12_readsFactor_31 (by decide) (by omega) (fun hc69 => ?_) (fun hc69 => ?_)
      · replace hF := hF.to (if_pos hc69)
        have hon70 := Sp.on hx68_0 (by omega)
        obtain ⟨z71, ez71, bz71⟩ := hI68.rd 0 5 (x := 0) (y := 220) rfl
        replace hF := hF.to (rdb_e (z := z71) ez71)
        replace hF := hF.fc bz71
        obtain ⟨z72, ez72, bz72⟩ := hI68.rd 0 8 (x := -2147483648) (y := 2147483647) rfl
        replace hF := hF.to (rdb_e (z := z72) ez72)
        have hn70 := hon70.1
        have hnl70 := hon70.2.2.1
        have hnp70 := hon70.2.1
        rw [ez72] at hn70
        rw [ez71, ((hon70.2.2.2 0 6 (Or.inr (by decide))).trans ez53)] at hnl70
        rw [ez71, ez52] at hnp70
        refine x_aload_n C.1 dX12_readsFactor_36 0 rfl ?_
        refine x_iconst C.1 (n := 0) dX12_readsFactor_37 ?_
        refine x_aload_n C.1 dX12_readsFactor_38 0 rfl ?_
        refine x_getI C (N := 33) (i := 0) (by decide) rfl vc_X12 wx_X12 8 (by decide) wf_X12_160 rfl dX12_readsFactor_39 (a := z72) ez72 ?_
        refine x_callVv C (As := [vI 0, vI z72]) (rest := []) 0 (xw_at (N := 33) (i := 0) (by decide) rfl) vc_X12 (m_notes l D cy ad G V68 J Rr hI68 hJ hR 0 ⟨by decide, by decide⟩ z72 ⟨by omega, by omega⟩ (by rw [((hon70.2.2.2 0 10 (Or.inr (by decide))).trans ez54)]; omega)) (l1 := []) (l2 := []) (List.append_nil _).symm (w2 := fun u : Nat → Nat → Int => MW cy ad u J Rr) (fun _ => List.append_nil _) rfl wm_yX12_notes wn_X12 wl_X12_180 wi_yX12_notes we_yX12_notes hd_yX12_notes rfl ⟨Nat.le_of_ble_eq_true rfl, Nat.le_of_ble_eq_true rfl⟩ (Nat.le_of_ble_eq_true rfl) ⟨Nat.le_of_ble_eq_true rfl, Nat.le_of_ble_eq_true rfl⟩ dX12_readsFactor_42 (fun V73 h73 => ?_)
        obtain ⟨hI73, hx73_0, hBc73, hFc73⟩ := h73
        replace hF := calUM_i hF hFc73 hBc73
        have hB73 := hB68.tr hBc73 (m := 590295810358705652736) rfl
        refine x_iconst C.1 (n := 1) dX12_readsFactor_45 ?_
        exact x_zret (S := (Nat → Nat → Int)) (post := (fun a (u : Nat → Nat → Int) => MI G u ∧ (0 ≤ a ∧ a ≤ 1) ∧ Sp a (pFac b c0 d 1 V u) ∧ FBm 1770887431076116959136 V u ∧ (f_m_readsFactor V J Rr) (a, u))) (w1 := (fun u : Nat → Nat → Int => MW cy ad u J Rr)) (a := 1) C hr rfl dX12_readsFactor_46 (by decide) V73 rfl ⟨hI73, ⟨by decide, by decide⟩, (Or.inr ⟨rfl, pFac.tr hf (facNum hs hp hon70.2.2.2 (by rw [ez52, ez71]; omega) (by rw [ez71, ((hon70.2.2.2 0 6 (Or.inr (by decide))).trans ez53)]; omega) (by omega) hx73_0)⟩), hB73, hF _ rfl⟩
      · replace hF := hF.to (if_neg (fun hh => hh hc69))
        refine x_iconst C.1 (n := 0) dX12_readsFactor_34 ?_
        exact x_zret (S := (Nat → Nat → Int)) (post := (fun a (u : Nat → Nat → Int) => MI G u ∧ (0 ≤ a ∧ a ≤ 1) ∧ Sp a (pFac b c0 d 1 V u) ∧ FBm 1770887431076116959136 V u ∧ (f_m_readsFactor V J Rr) (a, u))) (w1 := (fun u : Nat → Nat → Int => MW cy ad u J Rr)) (a := 0) C hr rfl dX12_readsFactor_35 (by decide) V68 rfl ⟨hI68, ⟨by decide, by decide⟩, (Or.inl rfl), hB68, hF _ rfl⟩
  · replace hF := hF.to (if_neg (fun hh => hh hc57))
    refine x_aload_n C.1 dX12_readsFactor_9 0 rfl ?_
    refine x_bipush C.1 (n := 14) dX12_readsFactor_10 ?_
    refine x_callVi C (As := [vI 14]) (rest := []) 0 (xw_at (N := 33) (i := 0) (by decide) rfl) vc_X12 (m_opens l D cy ad G V51 J Rr hI51 hJ hR 14 ⟨by decide, by decide⟩ (by rw [ez52, ez53]; omega) (by rw [ez53]; omega) (by rw [ez55]; omega)) (l1 := []) (l2 := []) (List.append_nil _).symm (w2 := fun u : Nat → Nat → Int => MW cy ad u J Rr) (fun _ => List.append_nil _) rfl wm_yX12_opens wn_X12 wl_X12_184 wi_yX12_opens we_yX12_opens hd_yX12_opens rfl ⟨Nat.le_of_ble_eq_true rfl, Nat.le_of_ble_eq_true rfl⟩ (Nat.le_of_ble_eq_true rfl) ⟨Nat.le_of_ble_eq_true rfl, Nat.le_of_ble_eq_true rfl⟩ dX12_readsFactor_12 (fun z74 V74 bz74 h74 => ?_)
    obtain ⟨hI74, bq74, hx74_0, hBc74, hFc74⟩ := h74
    replace hF := calVM_i hF hFc74 hBc74
    replace hF := hF.fc bq74
    have hB74 := hB51.tr hBc74 (m := 1180591620717411306144) rfl
    refine x_if_ne C.1 (tgt := 0) dX12_readsFactor_15 (by decide) (by omega) (fun hc75 => ?_) (fun hc75 => ?_)
    · replace hF := hF.to (if_pos hc75)
      have hon76 := Sp.on hx74_0 (by omega)
      obtain ⟨o, ho⟩ := hon76
      have hk := opnS hs hp (by rw [ez52, ez53]; omega) (pdv_m0 (s := 14) (by omega)) ho
      have hm1 := hk.2.2.1.2.2.1
      have hm2 := hk.2.2.2
      have hm3 := hk.2.1.2.1
      have hmu51 : (V74 0 6 - V74 0 5).toNat < (V51 0 6 - V51 0 5).toNat := (by omega)
      exact ih51 V74 ⟨hI74, hB74, hk.1, hk.2.1, (hf.tr hk.2.2.1), ⟨nf51, Nat.lt_of_lt_of_le hmu51 (Nat.le_of_lt_succ hn51), hF⟩⟩ hmu51
    · replace hF := hF.to (if_neg (fun hh => hh hc75))
      refine x_iconst C.1 (n := 0) dX12_readsFactor_18 ?_
      exact x_zret (S := (Nat → Nat → Int)) (post := (fun a (u : Nat → Nat → Int) => MI G u ∧ (0 ≤ a ∧ a ≤ 1) ∧ Sp a (pFac b c0 d 1 V u) ∧ FBm 1770887431076116959136 V u ∧ (f_m_readsFactor V J Rr) (a, u))) (w1 := (fun u : Nat → Nat → Int => MW cy ad u J Rr)) (a := 0) C hr rfl dX12_readsFactor_19 (by decide) V74 rfl ⟨hI74, ⟨by decide, by decide⟩, (Or.inl rfl), hB74, hF _ rfl⟩
theorem dX12_hasOpenSum_0 : decode cX12_hasOpenSum 0 = .ok (.iload_n 1, 1) := by decide +kernel
theorem dX12_hasOpenSum_1 : decode cX12_hasOpenSum 1 = .ok (.istore_n 2, 1) := by decide +kernel
theorem dX12_hasOpenSum_2 : decode cX12_hasOpenSum 2 = .ok (.iload_n 2, 1) := by decide +kernel
theorem dX12_hasOpenSum_3 : decode cX12_hasOpenSum 3 = .ok (.aload_n 0, 1) := by decide +kernel
theorem dX12_hasOpenSum_4 : decode cX12_hasOpenSum 4 = .ok (.getfield 174, 3) := by decide +kernel
theorem dX12_hasOpenSum_7 : decode cX12_hasOpenSum 7 = .ok (.if_icmp .ge 25, 3) := by decide +kernel
theorem dX12_hasOpenSum_10 : decode cX12_hasOpenSum 10 = .ok (.aload_n 0, 1) := by decide +kernel
theorem dX12_hasOpenSum_11 : decode cX12_hasOpenSum 11 = .ok (.getfield 26, 3) := by decide +kernel
theorem dX12_hasOpenSum_14 : decode cX12_hasOpenSum 14 = .ok (.iload_n 2, 1) := by decide +kernel
theorem dX12_hasOpenSum_15 : decode cX12_hasOpenSum 15 = .ok (.iaload, 1) := by decide +kernel
theorem dX12_hasOpenSum_16 : decode cX12_hasOpenSum 16 = .ok (.ldc 170, 2) := by decide +kernel
theorem dX12_hasOpenSum_18 : decode cX12_hasOpenSum 18 = .ok (.idiv, 1) := by decide +kernel
theorem dX12_hasOpenSum_19 : decode cX12_hasOpenSum 19 = .ok (.bipush 14, 2) := by decide +kernel
theorem dX12_hasOpenSum_21 : decode cX12_hasOpenSum 21 = .ok (.if_icmp .ne 5, 3) := by decide +kernel
theorem dX12_hasOpenSum_24 : decode cX12_hasOpenSum 24 = .ok (.iconst 1, 1) := by decide +kernel
theorem dX12_hasOpenSum_25 : decode cX12_hasOpenSum 25 = .ok (.ireturn, 1) := by decide +kernel
theorem dX12_hasOpenSum_26 : decode cX12_hasOpenSum 26 = .ok (.iinc 2 1, 3) := by decide +kernel
theorem dX12_hasOpenSum_29 : decode cX12_hasOpenSum 29 = .ok (.goto (-27), 3) := by decide +kernel
theorem dX12_hasOpenSum_32 : decode cX12_hasOpenSum 32 = .ok (.iconst 0, 1) := by decide +kernel
theorem dX12_hasOpenSum_33 : decode cX12_hasOpenSum 33 = .ok (.ireturn, 1) := by decide +kernel
set_option maxRecDepth 100000 in
def f_m_hasOpenSum (x1 : Int) (V : Nat → Nat → Int) (J : Nat → Nat → Int) (Rr : Nat → Nat → Nat) : (Int) → Prop :=
  lop1 (222) (fun rc19 (z18 : Int) => rdb (V 0 11) fun z25 => fct (0 ≤ z25 ∧ z25 ≤ 220) <| (if z25 ≤ z18 then rtn 0 else rdb (V 6 z18.toNat) fun z27 => rdb (iDiv z27 1048576) fun z28 => (if ¬ z28 = 14 then rc19 (z18 + 1) else rtn 1))) x1
set_option maxHeartbeats 8000000 in
set_option maxRecDepth 100000 in
theorem m_hasOpenSum (l : Launch) (D : va_G) (cy : Nat → ClassId) (ad : Nat → Nat) (G : Nat → Nat → Int) (V J : Nat → Nat → Int) (Rr : Nat → Nat → Nat) (hI : MI G V) (hJ : VJ J) (hR : MR Rr) (x1 : Int) (bx1 : 0 ≤ x1 ∧ x1 ≤ 200) : xMi l D (xTY cy) yX12_hasOpenSum cX12_hasOpenSum 3 (some .boolean) 0 0 0 0 [.ref (ad 0), vI x1] (MW cy ad V J Rr) (fun _ : Unit => MW cy ad V J Rr) (fun a (u : Unit) => (0 ≤ a ∧ a ≤ 1) ∧ (Sq a (∃ j : Nat, x1 ≤ (j : Int) ∧ (j : Int) < V 0 11 ∧ pdv (V 6 j) = 14)) ∧ (f_m_hasOpenSum x1 V J Rr) a) := by
  refine xMi.mk (lv0 := [(0, .ref (ad 0)), (1, vI x1)]) (by decide) rfl (Nat.le_of_ble_eq_true rfl) (fun p e s m below meth c A C hr hnm hAe => ?_)
  have C : xC2 p s m _ meth c D A s.heap 3 cX12_hasOpenSum RX12 (xTY cy) := C
  have hF := Imp.of_eq (f_m_hasOpenSum.eq_def x1 V J Rr)
  refine x_iload_n C.1 dX12_hasOpenSum_0 1 rfl ?_
  refine x_istore_n C.1 (lv' := [(2, vI x1), (0, .ref (ad 0)), (1, vI x1)]) dX12_hasOpenSum_1 (by decide) rfl ?_
  obtain ⟨bd19, hbd19, hF⟩ := lop1_ex hF
  refine x_loop (I := fun z18 : Int => (0 ≤ z18 ∧ z18 ≤ 220) ∧ x1 ≤ z18 ∧ (∀ j : Nat, x1 ≤ (j : Int) → (j : Int) < z18 → ¬ pdv (V 6 j) = 14) ∧ (∃ nf : Nat, (221 - z18).toNat < nf ∧ Imp (lop1 nf bd19 z18) (f_m_hasOpenSum x1 V J Rr))) (μ := fun z18 : Int => (221 - z18).toNat) (wsf := fun z18 : Int => MW cy ad V J Rr) (lvf := fun z18 : Int => [(2, vI z18), (0, .ref (ad 0)), (1, vI x1)]) (fun z18 hI19x ih19 => ?_) x1 ⟨⟨by omega, by omega⟩, (by omega), (fun j j1 j2 => by omega), ⟨_, (by omega), hF⟩⟩ rfl rfl
  obtain ⟨bz18, hx1, hno, nf19, hn19, hF⟩ := hI19x
  try dsimp only
  obtain ⟨nf19, rfl⟩ : ∃ mm, nf19 = mm + 1 := ⟨nf19 - 1, (Nat.succ_pred_eq_of_pos (Nat.lt_of_le_of_lt (Nat.zero_le _) hn19)).symm⟩
  replace hF := hF.to (lop1_s hbd19)
  refine x_iload_n C.1 dX12_hasOpenSum_2 0 rfl ?_
  refine x_aload_n C.1 dX12_hasOpenSum_3 1 rfl ?_
  obtain ⟨z25, ez25, bz25⟩ := hI.rd 0 11 (x := 0) (y := 220) rfl
  replace hF := hF.to (rdb_e (z := z25) ez25)
  replace hF := hF.fc bz25
  refine x_getI C (N := 33) (i := 0) (by decide) rfl vc_X12 wx_X12 11 (by decide) wf_X12_174 rfl dX12_hasOpenSum_4 (a := z25) ez25 ?_
  refine x_icmp_ge C.1 (tgt := 32) dX12_hasOpenSum_7 (by decide) (by omega) (by omega) (fun hc26 => ?_) (fun hc26 => ?_)
  · replace hF := hF.to (if_pos hc26)
    refine x_iconst C.1 (n := 0) dX12_hasOpenSum_32 ?_
    exact x_zret (S := Unit) (post := (fun a (u : Unit) => (0 ≤ a ∧ a ≤ 1) ∧ (Sq a (∃ j : Nat, x1 ≤ (j : Int) ∧ (j : Int) < V 0 11 ∧ pdv (V 6 j) = 14)) ∧ (f_m_hasOpenSum x1 V J Rr) a)) (w1 := (fun _ : Unit => MW cy ad V J Rr)) (a := 0) C hr rfl dX12_hasOpenSum_33 (by decide) () rfl ⟨⟨by decide, by decide⟩, (Or.inr ⟨rfl, fun ⟨j, j1, j2, j3⟩ => hno j j1 (by rw [ez25] at j2; omega) j3⟩), hF _ rfl⟩
  · replace hF := hF.to (if_neg hc26)
    refine x_aload_n C.1 dX12_hasOpenSum_10 1 rfl ?_
    refine x_getA C (N := 33) (i := 0) (by decide) rfl vc_X12 wx_X12 14 (by decide) wf_X12_26 (a := 6) rfl dX12_hasOpenSum_11 ?_
    refine x_iload_n C.1 dX12_hasOpenSum_14 0 rfl ?_
    obtain ⟨z27, ez27, bz27⟩ := hI.rd 6 z18.toNat (x := -2147483648) (y := 2147483647) rfl
    replace hF := hF.to (rdb_e (z := z27) ez27)
    refine x_iald C (N := 33) (i := 6) (q := z18) (by decide) rfl (by omega) (by decide) dX12_hasOpenSum_15 (a := z27) ez27 ?_
    refine x_ldc C.1 (n := 1048576) wq_X12_170 dX12_hasOpenSum_16 ?_
    obtain ⟨z28, hz28, bz28⟩ : ∃ z : Int, iDiv z27 1048576 = z ∧ (-2147483648 ≤ z ∧ z ≤ 2147483647) := ⟨_, rfl, xi_r _⟩
    replace hF := hF.to (rdb_e (z := z28) hz28)
    refine x_idiv C.1 (v := z28) hz28 dX12_hasOpenSum_18 (by decide) (by decide) ?_
    refine x_bipush C.1 (n := 14) dX12_hasOpenSum_19 ?_
    refine x_icmp_ne C.1 (tgt := 26) dX12_hasOpenSum_21 (by decide) (by omega) (by decide) (fun hc29 => ?_) (fun hc29 => ?_)
    · replace hF := hF.to (if_pos hc29)
      refine x_iinc C.1 (v := z18 + 1) (lv' := [(2, vI (z18 + 1)), (0, .ref (ad 0)), (1, vI x1)]) (by omega) dX12_hasOpenSum_26 0 rfl (by decide) rfl ?_
      refine x_goto C.1 (tgt := 2) dX12_hasOpenSum_29 (by decide) ?_
      have hmu19 : (221 - (z18 + 1)).toNat < (221 - z18).toNat := (by omega)
      exact ih19 (z18 + 1) ⟨⟨by omega, by omega⟩, (by omega), (fun j j1 j2 => by
      by_cases e : (j : Int) < z18
      · exact hno j j1 e
      · rw [show j = z18.toNat by omega]; unfold pdv; rw [ez27, hz28]; omega), ⟨nf19, Nat.lt_of_lt_of_le hmu19 (Nat.le_of_lt_succ hn19), hF⟩⟩ hmu19
    · replace hF := hF.to (if_neg (fun hh => hh hc29))
      refine x_iconst C.1 (n := 1) dX12_hasOpenSum_24 ?_
      exact x_zret (S := Unit) (post := (fun a (u : Unit) => (0 ≤ a ∧ a ≤ 1) ∧ (Sq a (∃ j : Nat, x1 ≤ (j : Int) ∧ (j : Int) < V 0 11 ∧ pdv (V 6 j) = 14)) ∧ (f_m_hasOpenSum x1 V J Rr) a)) (w1 := (fun _ : Unit => MW cy ad V J Rr)) (a := 1) C hr rfl dX12_hasOpenSum_25 (by decide) () rfl ⟨⟨by decide, by decide⟩, (Or.inl ⟨rfl, z18.toNat, by omega, by rw [ez25]; omega, by unfold pdv; rw [ez27, hz28]; omega⟩), hF _ rfl⟩
end
