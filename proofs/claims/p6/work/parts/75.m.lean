theorem hd_yX12_notes : yX12_notes.cls ≠ "java/lang/invoke/MethodHandle" ∧ yX12_notes.cls ≠ "java/lang/invoke/VarHandle" ∧ (parseMethodDescriptor yX12_notes.desc).map (fun d => d.parameters.length) = some 2 := by decide +kernel
theorem hd_yX12_waitTop : yX12_waitTop.cls ≠ "java/lang/invoke/MethodHandle" ∧ yX12_waitTop.cls ≠ "java/lang/invoke/VarHandle" ∧ (parseMethodDescriptor yX12_waitTop.desc).map (fun d => d.parameters.length) = some 0 := by decide +kernel
theorem dX12_closesSums_0 : decode cX12_closesSums 0 = .ok (.aload_n 0, 1) := by decide +kernel
theorem dX12_closesSums_1 : decode cX12_closesSums 1 = .ok (.invokevirtual 177, 3) := by decide +kernel
theorem dX12_closesSums_4 : decode cX12_closesSums 4 = .ok (.iconst 4, 1) := by decide +kernel
theorem dX12_closesSums_5 : decode cX12_closesSums 5 = .ok (.if_icmp .lt 12, 3) := by decide +kernel
theorem dX12_closesSums_8 : decode cX12_closesSums 8 = .ok (.aload_n 0, 1) := by decide +kernel
theorem dX12_closesSums_9 : decode cX12_closesSums 9 = .ok (.invokevirtual 177, 3) := by decide +kernel
theorem dX12_closesSums_12 : decode cX12_closesSums 12 = .ok (.bipush 6, 2) := by decide +kernel
theorem dX12_closesSums_14 : decode cX12_closesSums 14 = .ok (.if_icmp .le 23, 3) := by decide +kernel
theorem dX12_closesSums_17 : decode cX12_closesSums 17 = .ok (.iload_n 1, 1) := by decide +kernel
theorem dX12_closesSums_18 : decode cX12_closesSums 18 = .ok (.ifCond .eq 41, 3) := by decide +kernel
theorem dX12_closesSums_21 : decode cX12_closesSums 21 = .ok (.aload_n 0, 1) := by decide +kernel
theorem dX12_closesSums_22 : decode cX12_closesSums 22 = .ok (.invokevirtual 177, 3) := by decide +kernel
theorem dX12_closesSums_25 : decode cX12_closesSums 25 = .ok (.iconst 2, 1) := by decide +kernel
theorem dX12_closesSums_26 : decode cX12_closesSums 26 = .ok (.if_icmp .eq 11, 3) := by decide +kernel
theorem dX12_closesSums_29 : decode cX12_closesSums 29 = .ok (.aload_n 0, 1) := by decide +kernel
theorem dX12_closesSums_30 : decode cX12_closesSums 30 = .ok (.invokevirtual 177, 3) := by decide +kernel
theorem dX12_closesSums_33 : decode cX12_closesSums 33 = .ok (.iconst 3, 1) := by decide +kernel
theorem dX12_closesSums_34 : decode cX12_closesSums 34 = .ok (.if_icmp .ne 25, 3) := by decide +kernel
theorem dX12_closesSums_37 : decode cX12_closesSums 37 = .ok (.aload_n 0, 1) := by decide +kernel
theorem dX12_closesSums_38 : decode cX12_closesSums 38 = .ok (.aload_n 0, 1) := by decide +kernel
theorem dX12_closesSums_39 : decode cX12_closesSums 39 = .ok (.invokevirtual 177, 3) := by decide +kernel
theorem dX12_closesSums_42 : decode cX12_closesSums 42 = .ok (.iconst 0, 1) := by decide +kernel
theorem dX12_closesSums_43 : decode cX12_closesSums 43 = .ok (.invokevirtual 180, 3) := by decide +kernel
theorem dX12_closesSums_46 : decode cX12_closesSums 46 = .ok (.aload_n 0, 1) := by decide +kernel
theorem dX12_closesSums_47 : decode cX12_closesSums 47 = .ok (.aload_n 0, 1) := by decide +kernel
theorem dX12_closesSums_48 : decode cX12_closesSums 48 = .ok (.getfield 174, 3) := by decide +kernel
theorem dX12_closesSums_51 : decode cX12_closesSums 51 = .ok (.iconst 1, 1) := by decide +kernel
theorem dX12_closesSums_52 : decode cX12_closesSums 52 = .ok (.isub, 1) := by decide +kernel
theorem dX12_closesSums_53 : decode cX12_closesSums 53 = .ok (.putfield 174, 3) := by decide +kernel
theorem dX12_closesSums_56 : decode cX12_closesSums 56 = .ok (.goto (-56), 3) := by decide +kernel
theorem dX12_closesSums_59 : decode cX12_closesSums 59 = .ok (.return_, 1) := by decide +kernel
set_option maxRecDepth 100000 in
def f_m_closesSums (x1 : Int) (V : Nat → Nat → Int) (J : Nat → Nat → Int) (Rr : Nat → Nat → Nat) : (Nat → Nat → Int) → Prop :=
  lop1 ((V 0 11).toNat + 1) (fun rc65 (V65 : Nat → Nat → Int) => rdb (V65 0 5) fun z66 => fct (0 ≤ z66 ∧ z66 ≤ 220) <| rdb (V65 0 10) fun z67 => fct (0 ≤ z67 ∧ z67 ≤ 220) <| rdb (V65 0 11) fun z68 => fct (0 ≤ z68 ∧ z68 ≤ 220) <| calR (f_m_waitTop V65 J Rr) fun z69 => (if z69 < 4 then (if x1 = 0 then rtn V65 else calR (f_m_waitTop V65 J Rr) fun z72 => (if z72 = 2 then calR (f_m_waitTop V65 J Rr) fun z74 => calUM 590295810358705652736 V65 (f_m_notes z74 0 V65 J Rr) fun V75 => rdb (up2 V75 0 11 (z68 - 1)) fun V76 => rc65 V76 else calR (f_m_waitTop V65 J Rr) fun z77 => (if ¬ z77 = 3 then rtn V65 else calR (f_m_waitTop V65 J Rr) fun z79 => calUM 590295810358705652736 V65 (f_m_notes z79 0 V65 J Rr) fun V80 => rdb (up2 V80 0 11 (z68 - 1)) fun V81 => rc65 V81))) else calR (f_m_waitTop V65 J Rr) fun z82 => (if z82 ≤ 6 then calR (f_m_waitTop V65 J Rr) fun z84 => calUM 590295810358705652736 V65 (f_m_notes z84 0 V65 J Rr) fun V85 => rdb (up2 V85 0 11 (z68 - 1)) fun V86 => rc65 V86 else (if x1 = 0 then rtn V65 else calR (f_m_waitTop V65 J Rr) fun z88 => (if z88 = 2 then calR (f_m_waitTop V65 J Rr) fun z90 => calUM 590295810358705652736 V65 (f_m_notes z90 0 V65 J Rr) fun V91 => rdb (up2 V91 0 11 (z68 - 1)) fun V92 => rc65 V92 else calR (f_m_waitTop V65 J Rr) fun z93 => (if ¬ z93 = 3 then rtn V65 else calR (f_m_waitTop V65 J Rr) fun z95 => calUM 590295810358705652736 V65 (f_m_notes z95 0 V65 J Rr) fun V96 => rdb (up2 V96 0 11 (z68 - 1)) fun V97 => rc65 V97)))))) V
set_option maxHeartbeats 8000000 in
set_option maxRecDepth 100000 in
theorem m_closesSums (l : Launch) (D : va_G) (cy : Nat → ClassId) (ad : Nat → Nat) (G : Nat → Nat → Int) (V J : Nat → Nat → Int) (Rr : Nat → Nat → Nat) (hI : MI G V) (hJ : VJ J) (hR : MR Rr) (x1 : Int) (bx1 : 0 ≤ x1 ∧ x1 ≤ 1) (b c0 d : Int) (hS : SI b c0 d 1 V) (hb : b = 0 ∨ ¬ pio (V 6 (b - 1).toNat)) (hP : PG V) : xMv l D (xTY cy) yX12_closesSums cX12_closesSums 2 none 1 22 0 0 [.ref (ad 0), vI x1] (MW cy ad V J Rr) (fun u : Nat → Nat → Int => MW cy ad u J Rr) (fun u : Nat → Nat → Int => MI G u ∧ pCL b c0 d V u ∧ (x1 = 1 → u 0 11 = b ∨ (b < u 0 11 ∧ pdv (V 6 (u 0 11 - 1).toNat) = 14)) ∧ FBm 590295810358705654784 V u ∧ (f_m_closesSums x1 V J Rr) u) := by
  refine xMv.mk (lv0 := [(0, .ref (ad 0)), (1, vI x1)]) (by decide) rfl (Nat.le_of_ble_eq_true rfl) (fun p e s m below meth c A C hr hnm hAe => ?_)
  have C : xC2 p s m _ meth c D A s.heap 2 cX12_closesSums RX12 (xTY cy) := C
  have hB : FBm 590295810358705654784 V V := FBm.rf _ _
  have hF := Imp.of_eq (f_m_closesSums.eq_def x1 V J Rr)
  obtain ⟨bd65, hbd65, hF⟩ := lop1_ex hF
  refine x_loop (I := fun V65 : (Nat → Nat → Int) => MI G V65 ∧ FBm 590295810358705654784 V V65 ∧ pCL b c0 d V V65 ∧ (∃ nf : Nat, (V65 0 11).toNat < nf ∧ Imp (lop1 nf bd65 V65) (f_m_closesSums x1 V J Rr))) (μ := fun V65 : (Nat → Nat → Int) => (V65 0 11).toNat) (wsf := fun V65 : (Nat → Nat → Int) => MW cy ad V65 J Rr) (lvf := fun V65 : (Nat → Nat → Int) => [(0, .ref (ad 0)), (1, vI x1)]) (fun V65 hI65x ih65 => ?_) V ⟨hI, hB, (pCL.rf hS hP), ⟨_, (Nat.lt_succ_self _), hF⟩⟩ rfl rfl
  obtain ⟨hI65, hB65, hcl, nf65, hn65, hF⟩ := hI65x
  try dsimp only
  obtain ⟨nf65, rfl⟩ : ∃ mm, nf65 = mm + 1 := ⟨nf65 - 1, (Nat.succ_pred_eq_of_pos (Nat.lt_of_le_of_lt (Nat.zero_le _) hn65)).symm⟩
  replace hF := hF.to (lop1_s hbd65)
  obtain ⟨z66, ez66, bz66⟩ := hI65.rd 0 5 (x := 0) (y := 220) rfl
  replace hF := hF.to (rdb_e (z := z66) ez66)
  replace hF := hF.fc bz66
  obtain ⟨z67, ez67, bz67⟩ := hI65.rd 0 10 (x := 0) (y := 220) rfl
  replace hF := hF.to (rdb_e (z := z67) ez67)
  replace hF := hF.fc bz67
  obtain ⟨z68, ez68, bz68⟩ := hI65.rd 0 11 (x := 0) (y := 220) rfl
  replace hF := hF.to (rdb_e (z := z68) ez68)
  replace hF := hF.fc bz68
  have hc2 := hcl.1.c200 hcl.2.1
  rw [ez66, ez67, ez68] at hc2
  refine x_aload_n C.1 dX12_closesSums_0 0 rfl ?_
  refine x_callVi C (As := []) (rest := []) 0 (xw_at (N := 33) (i := 0) (by decide) rfl) vc_X12 (m_waitTop l D cy ad G V65 J Rr hI65 hJ hR ) (l1 := []) (l2 := []) (List.append_nil _).symm (w2 := fun _ => MW cy ad V65 J Rr) (fun _ => List.append_nil _) rfl wm_yX12_waitTop wn_X12 wl_X12_177 wi_yX12_waitTop we_yX12_waitTop hd_yX12_waitTop rfl ⟨Nat.le_of_ble_eq_true rfl, Nat.le_of_ble_eq_true rfl⟩ (Nat.le_of_ble_eq_true rfl) ⟨Nat.le_of_ble_eq_true rfl, Nat.le_of_ble_eq_true rfl⟩ dX12_closesSums_1 (fun z69 u69 bz69 h69 => ?_)
  obtain ⟨hx69_0, hFc69⟩ := h69
  replace hF := calR_i hF hFc69
  refine x_iconst C.1 (n := 4) dX12_closesSums_4 ?_
  refine x_icmp_lt C.1 (tgt := 17) dX12_closesSums_5 (by decide) (by omega) (by decide) (fun hc70 => ?_) (fun hc70 => ?_)
  · replace hF := hF.to (if_pos hc70)
    refine x_iload_n C.1 dX12_closesSums_17 1 rfl ?_
    refine x_if_eq C.1 (tgt := 59) dX12_closesSums_18 (by decide) (by omega) (fun hc71 => ?_) (fun hc71 => ?_)
    · replace hF := hF.to (if_pos hc71)
      exact x_vret (S := (Nat → Nat → Int)) (post := (fun u : Nat → Nat → Int => MI G u ∧ pCL b c0 d V u ∧ (x1 = 1 → u 0 11 = b ∨ (b < u 0 11 ∧ pdv (V 6 (u 0 11 - 1).toNat) = 14)) ∧ FBm 590295810358705654784 V u ∧ (f_m_closesSums x1 V J Rr) u)) (w1 := (fun u : Nat → Nat → Int => MW cy ad u J Rr)) C hr rfl dX12_closesSums_59 V65 rfl ⟨hI65, hcl, (fun h1 => hcl.top (by omega)), hB65, hF _ rfl⟩
    · replace hF := hF.to (if_neg hc71)
      refine x_aload_n C.1 dX12_closesSums_21 0 rfl ?_
      refine x_callVi C (As := []) (rest := []) 0 (xw_at (N := 33) (i := 0) (by decide) rfl) vc_X12 (m_waitTop l D cy ad G V65 J Rr hI65 hJ hR ) (l1 := []) (l2 := []) (List.append_nil _).symm (w2 := fun _ => MW cy ad V65 J Rr) (fun _ => List.append_nil _) rfl wm_yX12_waitTop wn_X12 wl_X12_177 wi_yX12_waitTop we_yX12_waitTop hd_yX12_waitTop rfl ⟨Nat.le_of_ble_eq_true rfl, Nat.le_of_ble_eq_true rfl⟩ (Nat.le_of_ble_eq_true rfl) ⟨Nat.le_of_ble_eq_true rfl, Nat.le_of_ble_eq_true rfl⟩ dX12_closesSums_22 (fun z72 u72 bz72 h72 => ?_)
      obtain ⟨hx72_0, hFc72⟩ := h72
      replace hF := calR_i hF hFc72
      refine x_iconst C.1 (n := 2) dX12_closesSums_25 ?_
      refine x_icmp_eq C.1 (tgt := 37) dX12_closesSums_26 (by decide) (by omega) (by decide) (fun hc73 => ?_) (fun hc73 => ?_)
      · replace hF := hF.to (if_pos hc73)
        refine x_aload_n C.1 dX12_closesSums_37 0 rfl ?_
        refine x_aload_n C.1 dX12_closesSums_38 0 rfl ?_
        refine x_callVi C (As := []) (rest := [.ref (ad 0)]) 0 (xw_at (N := 33) (i := 0) (by decide) rfl) vc_X12 (m_waitTop l D cy ad G V65 J Rr hI65 hJ hR ) (l1 := []) (l2 := []) (List.append_nil _).symm (w2 := fun _ => MW cy ad V65 J Rr) (fun _ => List.append_nil _) rfl wm_yX12_waitTop wn_X12 wl_X12_177 wi_yX12_waitTop we_yX12_waitTop hd_yX12_waitTop rfl ⟨Nat.le_of_ble_eq_true rfl, Nat.le_of_ble_eq_true rfl⟩ (Nat.le_of_ble_eq_true rfl) ⟨Nat.le_of_ble_eq_true rfl, Nat.le_of_ble_eq_true rfl⟩ dX12_closesSums_39 (fun z74 u74 bz74 h74 => ?_)
        obtain ⟨hx74_0, hFc74⟩ := h74
        replace hF := calR_i hF hFc74
        refine x_iconst C.1 (n := 0) dX12_closesSums_42 ?_
        have hm0 := (ptop_n (V := V65) (by omega)).1
        rw [ez68] at hm0
        refine x_callVv C (As := [vI z74, vI 0]) (rest := []) 0 (xw_at (N := 33) (i := 0) (by decide) rfl) vc_X12 (m_notes l D cy ad G V65 J Rr hI65 hJ hR z74 ⟨by omega, by omega⟩ 0 ⟨by decide, by decide⟩ (by rw [ez67]; omega)) (l1 := []) (l2 := []) (List.append_nil _).symm (w2 := fun u : Nat → Nat → Int => MW cy ad u J Rr) (fun _ => List.append_nil _) rfl wm_yX12_notes wn_X12 wl_X12_180 wi_yX12_notes we_yX12_notes hd_yX12_notes rfl ⟨Nat.le_of_ble_eq_true rfl, Nat.le_of_ble_eq_true rfl⟩ (Nat.le_of_ble_eq_true rfl) ⟨Nat.le_of_ble_eq_true rfl, Nat.le_of_ble_eq_true rfl⟩ dX12_closesSums_43 (fun V75 h75 => ?_)
        obtain ⟨hI75, hx75_0, hBc75, hFc75⟩ := h75
        replace hF := calUM_i hF hFc75 hBc75
        have hB75 := hB65.tr hBc75 (m := 590295810358705652736) rfl
        refine x_aload_n C.1 dX12_closesSums_46 0 rfl ?_
        refine x_aload_n C.1 dX12_closesSums_47 0 rfl ?_
        refine x_getI C (N := 33) (i := 0) (by decide) rfl vc_X12 wx_X12 11 (by decide) wf_X12_174 rfl dX12_closesSums_48 (a := z68) ((congrFun (congrFun hx75_0 0) (11)).trans ((up2_n _ _ (Or.inr (by decide))).trans ((up2_n _ _ (Or.inl (by decide))).trans ez68))) ?_
        refine x_iconst C.1 (n := 1) dX12_closesSums_51 ?_
        refine x_isub C.1 (v := z68 - 1) (by omega) dX12_closesSums_52 ?_
        refine x_putI C (N := 33) (i := 0) (by decide) rfl vc_X12 wx_X12 11 (by decide) wf_X12_174 tyX12 tyX12_ok nmX12 rfl (tyX12_ok 11 (by decide)) rfl dX12_closesSums_53 rfl rfl ?_
        refine x_gV ?_
        intro V76 hV76
        have hI76 : MI G V76 := hI75.up hV76 rfl (by omega) rfl (Or.inl (by decide))
        have hB76 := hB75.up hV76 rfl
        replace hF := hF.to (rdb_e (z := V76) hV76.symm)
        refine x_goto C.1 (tgt := 0) dX12_closesSums_56 (by decide) ?_
        have hm1 := ((congrFun (congrFun hV76 0) 11).trans (up2_s _ _ _ _))
        have hm2 := ez68
        have hm3 := (ptop_n (V := V65) (by omega)).1
        have hmu65 : (V76 0 11).toNat < (V65 0 11).toNat := (by omega)
        exact ih65 V76 ⟨hI76, hB76, (pCL.step hcl hb ⟨by omega, by omega⟩ (by rw [hV76, hx75_0, ← hx74_0, ez68])), ⟨nf65, Nat.lt_of_lt_of_le hmu65 (Nat.le_of_lt_succ hn65), hF⟩⟩ hmu65
      · replace hF := hF.to (if_neg hc73)
        refine x_aload_n C.1 dX12_closesSums_29 0 rfl ?_
        refine x_callVi C (As := []) (rest := []) 0 (xw_at (N := 33) (i := 0) (by decide) rfl) vc_X12 (m_waitTop l D cy ad G V65 J Rr hI65 hJ hR ) (l1 := []) (l2 := []) (List.append_nil _).symm (w2 := fun _ => MW cy ad V65 J Rr) (fun _ => List.append_nil _) rfl wm_yX12_waitTop wn_X12 wl_X12_177 wi_yX12_waitTop we_yX12_waitTop hd_yX12_waitTop rfl ⟨Nat.le_of_ble_eq_true rfl, Nat.le_of_ble_eq_true rfl⟩ (Nat.le_of_ble_eq_true rfl) ⟨Nat.le_of_ble_eq_true rfl, Nat.le_of_ble_eq_true rfl⟩ dX12_closesSums_30 (fun z77 u77 bz77 h77 => ?_)
        obtain ⟨hx77_0, hFc77⟩ := h77
        replace hF := calR_i hF hFc77
        refine x_iconst C.1 (n := 3) dX12_closesSums_33 ?_
        refine x_icmp_ne C.1 (tgt := 59) dX12_closesSums_34 (by decide) (by omega) (by decide) (fun hc78 => ?_) (fun hc78 => ?_)
        · replace hF := hF.to (if_pos hc78)
          exact x_vret (S := (Nat → Nat → Int)) (post := (fun u : Nat → Nat → Int => MI G u ∧ pCL b c0 d V u ∧ (x1 = 1 → u 0 11 = b ∨ (b < u 0 11 ∧ pdv (V 6 (u 0 11 - 1).toNat) = 14)) ∧ FBm 590295810358705654784 V u ∧ (f_m_closesSums x1 V J Rr) u)) (w1 := (fun u : Nat → Nat → Int => MW cy ad u J Rr)) C hr rfl dX12_closesSums_59 V65 rfl ⟨hI65, hcl, (fun h1 => hcl.top (by omega)), hB65, hF _ rfl⟩
        · replace hF := hF.to (if_neg (fun hh => hh hc78))
          refine x_aload_n C.1 dX12_closesSums_37 0 rfl ?_
          refine x_aload_n C.1 dX12_closesSums_38 0 rfl ?_
          refine x_callVi C (As := []) (rest := [.ref (ad 0)]) 0 (xw_at (N := 33) (i := 0) (by decide) rfl) vc_X12 (m_waitTop l D cy ad G V65 J Rr hI65 hJ hR ) (l1 := []) (l2 := []) (List.append_nil _).symm (w2 := fun _ => MW cy ad V65 J Rr) (fun _ => List.append_nil _) rfl wm_yX12_waitTop wn_X12 wl_X12_177 wi_yX12_waitTop we_yX12_waitTop hd_yX12_waitTop rfl ⟨Nat.le_of_ble_eq_true rfl, Nat.le_of_ble_eq_true rfl⟩ (Nat.le_of_ble_eq_true rfl) ⟨Nat.le_of_ble_eq_true rfl, Nat.le_of_ble_eq_true rfl⟩ dX12_closesSums_39 (fun z79 u79 bz79 h79 => ?_)
          obtain ⟨hx79_0, hFc79⟩ := h79
          replace hF := calR_i hF hFc79
          refine x_iconst C.1 (n := 0) dX12_closesSums_42 ?_
          have hm0 := (ptop_n (V := V65) (by omega)).1
          rw [ez68] at hm0
          refine x_callVv C (As := [vI z79, vI 0]) (rest := []) 0 (xw_at (N := 33) (i := 0) (by decide) rfl) vc_X12 (m_notes l D cy ad G V65 J Rr hI65 hJ hR z79 ⟨by omega, by omega⟩ 0 ⟨by decide, by decide⟩ (by rw [ez67]; omega)) (l1 := []) (l2 := []) (List.append_nil _).symm (w2 := fun u : Nat → Nat → Int => MW cy ad u J Rr) (fun _ => List.append_nil _) rfl wm_yX12_notes wn_X12 wl_X12_180 wi_yX12_notes we_yX12_notes hd_yX12_notes rfl ⟨Nat.le_of_ble_eq_true rfl, Nat.le_of_ble_eq_true rfl⟩ (Nat.le_of_ble_eq_true rfl) ⟨Nat.le_of_ble_eq_true rfl, Nat.le_of_ble_eq_true rfl⟩ dX12_closesSums_43 (fun V80 h80 => ?_)
          obtain ⟨hI80, hx80_0, hBc80, hFc80⟩ := h80
          replace hF := calUM_i hF hFc80 hBc80
          have hB80 := hB65.tr hBc80 (m := 590295810358705652736) rfl
          refine x_aload_n C.1 dX12_closesSums_46 0 rfl ?_
          refine x_aload_n C.1 dX12_closesSums_47 0 rfl ?_
          refine x_getI C (N := 33) (i := 0) (by decide) rfl vc_X12 wx_X12 11 (by decide) wf_X12_174 rfl dX12_closesSums_48 (a := z68) ((congrFun (congrFun hx80_0 0) (11)).trans ((up2_n _ _ (Or.inr (by decide))).trans ((up2_n _ _ (Or.inl (by decide))).trans ez68))) ?_
          refine x_iconst C.1 (n := 1) dX12_closesSums_51 ?_
          refine x_isub C.1 (v := z68 - 1) (by omega) dX12_closesSums_52 ?_
          refine x_putI C (N := 33) (i := 0) (by decide) rfl vc_X12 wx_X12 11 (by decide) wf_X12_174 tyX12 tyX12_ok nmX12 rfl (tyX12_ok 11 (by decide)) rfl dX12_closesSums_53 rfl rfl ?_
          refine x_gV ?_
          intro V81 hV81
          have hI81 : MI G V81 := hI80.up hV81 rfl (by omega) rfl (Or.inl (by decide))
          have hB81 := hB80.up hV81 rfl
          replace hF := hF.to (rdb_e (z := V81) hV81.symm)
          refine x_goto C.1 (tgt := 0) dX12_closesSums_56 (by decide) ?_
          have hm1 := ((congrFun (congrFun hV81 0) 11).trans (up2_s _ _ _ _))
          have hm2 := ez68
          have hm3 := (ptop_n (V := V65) (by omega)).1
          have hmu65 : (V81 0 11).toNat < (V65 0 11).toNat := (by omega)
          exact ih65 V81 ⟨hI81, hB81, (pCL.step hcl hb ⟨by omega, by omega⟩ (by rw [hV81, hx80_0, ← hx79_0, ez68])), ⟨nf65, Nat.lt_of_lt_of_le hmu65 (Nat.le_of_lt_succ hn65), hF⟩⟩ hmu65
  · replace hF := hF.to (if_neg hc70)
    refine x_aload_n C.1 dX12_closesSums_8 0 rfl ?_
    refine x_callVi C (As := []) (rest := []) 0 (xw_at (N := 33) (i := 0) (by decide) rfl) vc_X12 (m_waitTop l D cy ad G V65 J Rr hI65 hJ hR ) (l1 := []) (l2 := []) (List.append_nil _).symm (w2 := fun _ => MW cy ad V65 J Rr) (fun _ => List.append_nil _) rfl wm_yX12_waitTop wn_X12 wl_X12_177 wi_yX12_waitTop we_yX12_waitTop hd_yX12_waitTop rfl ⟨Nat.le_of_ble_eq_true rfl, Nat.le_of_ble_eq_true rfl⟩ (Nat.le_of_ble_eq_true rfl) ⟨Nat.le_of_ble_eq_true rfl, Nat.le_of_ble_eq_true rfl⟩ dX12_closesSums_9 (fun z82 u82 bz82 h82 => ?_)
    obtain ⟨hx82_0, hFc82⟩ := h82
    replace hF := calR_i hF hFc82
    refine x_bipush C.1 (n := 6) dX12_closesSums_12 ?_
    refine x_icmp_le C.1 (tgt := 37) dX12_closesSums_14 (by decide) (by omega) (by decide) (fun hc83 => ?_) (fun hc83 => ?_)
    · replace hF := hF.to (if_pos hc83)
      refine x_aload_n C.1 dX12_closesSums_37 0 rfl ?_
      refine x_aload_n C.1 dX12_closesSums_38 0 rfl ?_
      refine x_callVi C (As := []) (rest := [.ref (ad 0)]) 0 (xw_at (N := 33) (i := 0) (by decide) rfl) vc_X12 (m_waitTop l D cy ad G V65 J Rr hI65 hJ hR ) (l1 := []) (l2 := []) (List.append_nil _).symm (w2 := fun _ => MW cy ad V65 J Rr) (fun _ => List.append_nil _) rfl wm_yX12_waitTop wn_X12 wl_X12_177 wi_yX12_waitTop we_yX12_waitTop hd_yX12_waitTop rfl ⟨Nat.le_of_ble_eq_true rfl, Nat.le_of_ble_eq_true rfl⟩ (Nat.le_of_ble_eq_true rfl) ⟨Nat.le_of_ble_eq_true rfl, Nat.le_of_ble_eq_true rfl⟩ dX12_closesSums_39 (fun z84 u84 bz84 h84 => ?_)
      obtain ⟨hx84_0, hFc84⟩ := h84
      replace hF := calR_i hF hFc84
      refine x_iconst C.1 (n := 0) dX12_closesSums_42 ?_
      have hm0 := (ptop_n (V := V65) (by omega)).1
      rw [ez68] at hm0
      refine x_callVv C (As := [vI z84, vI 0]) (rest := []) 0 (xw_at (N := 33) (i := 0) (by decide) rfl) vc_X12 (m_notes l D cy ad G V65 J Rr hI65 hJ hR z84 ⟨by omega, by omega⟩ 0 ⟨by decide, by decide⟩ (by rw [ez67]; omega)) (l1 := []) (l2 := []) (List.append_nil _).symm (w2 := fun u : Nat → Nat → Int => MW cy ad u J Rr) (fun _ => List.append_nil _) rfl wm_yX12_notes wn_X12 wl_X12_180 wi_yX12_notes we_yX12_notes hd_yX12_notes rfl ⟨Nat.le_of_ble_eq_true rfl, Nat.le_of_ble_eq_true rfl⟩ (Nat.le_of_ble_eq_true rfl) ⟨Nat.le_of_ble_eq_true rfl, Nat.le_of_ble_eq_true rfl⟩ dX12_closesSums_43 (fun V85 h85 => ?_)
      obtain ⟨hI85, hx85_0, hBc85, hFc85⟩ := h85
      replace hF := calUM_i hF hFc85 hBc85
      have hB85 := hB65.tr hBc85 (m := 590295810358705652736) rfl
      refine x_aload_n C.1 dX12_closesSums_46 0 rfl ?_
      refine x_aload_n C.1 dX12_closesSums_47 0 rfl ?_
      refine x_getI C (N := 33) (i := 0) (by decide) rfl vc_X12 wx_X12 11 (by decide) wf_X12_174 rfl dX12_closesSums_48 (a := z68) ((congrFun (congrFun hx85_0 0) (11)).trans ((up2_n _ _ (Or.inr (by decide))).trans ((up2_n _ _ (Or.inl (by decide))).trans ez68))) ?_
      refine x_iconst C.1 (n := 1) dX12_closesSums_51 ?_
      refine x_isub C.1 (v := z68 - 1) (by omega) dX12_closesSums_52 ?_
      refine x_putI C (N := 33) (i := 0) (by decide) rfl vc_X12 wx_X12 11 (by decide) wf_X12_174 tyX12 tyX12_ok nmX12 rfl (tyX12_ok 11 (by decide)) rfl dX12_closesSums_53 rfl rfl ?_
      refine x_gV ?_
      intro V86 hV86
      have hI86 : MI G V86 := hI85.up hV86 rfl (by omega) rfl (Or.inl (by decide))
      have hB86 := hB85.up hV86 rfl
      replace hF := hF.to (rdb_e (z := V86) hV86.symm)
      refine x_goto C.1 (tgt := 0) dX12_closesSums_56 (by decide) ?_
      have hm1 := ((congrFun (congrFun hV86 0) 11).trans (up2_s _ _ _ _))
      have hm2 := ez68
      have hm3 := (ptop_n (V := V65) (by omega)).1
      have hmu65 : (V86 0 11).toNat < (V65 0 11).toNat := (by omega)
      exact ih65 V86 ⟨hI86, hB86, (pCL.step hcl hb ⟨by omega, by omega⟩ (by rw [hV86, hx85_0, ← hx84_0, ez68])), ⟨nf65, Nat.lt_of_lt_of_le hmu65 (Nat.le_of_lt_succ hn65), hF⟩⟩ hmu65
    · replace hF := hF.to (if_neg hc83)
      refine x_iload_n C.1 dX12_closesSums_17 1 rfl ?_
      refine x_if_eq C.1 (tgt := 59) dX12_closesSums_18 (by decide) (by omega) (fun hc87 => ?_) (fun hc87 => ?_)
      · replace hF := hF.to (if_pos hc87)
        exact x_vret (S := (Nat → Nat → Int)) (post := (fun u : Nat → Nat → Int => MI G u ∧ pCL b c0 d V u ∧ (x1 = 1 → u 0 11 = b ∨ (b < u 0 11 ∧ pdv (V 6 (u 0 11 - 1).toNat) = 14)) ∧ FBm 590295810358705654784 V u ∧ (f_m_closesSums x1 V J Rr) u)) (w1 := (fun u : Nat → Nat → Int => MW cy ad u J Rr)) C hr rfl dX12_closesSums_59 V65 rfl ⟨hI65, hcl, (fun h1 => hcl.top (by omega)), hB65, hF _ rfl⟩
      · replace hF := hF.to (if_neg hc87)
        refine x_aload_n C.1 dX12_closesSums_21 0 rfl ?_
        refine x_callVi C (As := []) (rest := []) 0 (xw_at (N := 33) (i := 0) (by decide) rfl) vc_X12 (m_waitTop l D cy ad G V65 J Rr hI65 hJ hR ) (l1 := []) (l2 := []) (List.append_nil _).symm (w2 := fun _ => MW cy ad V65 J Rr) (fun _ => List.append_nil _) rfl wm_yX12_waitTop wn_X12 wl_X12_177 wi_yX12_waitTop we_yX12_waitTop hd_yX12_waitTop rfl ⟨Nat.le_of_ble_eq_true rfl, Nat.le_of_ble_eq_true rfl⟩ (Nat.le_of_ble_eq_true rfl) ⟨Nat.le_of_ble_eq_true rfl, Nat.le_of_ble_eq_true rfl⟩ dX12_closesSums_22 (fun z88 u88 bz88 h88 => ?_)
        obtain ⟨hx88_0, hFc88⟩ := h88
        replace hF := calR_i hF hFc88
        refine x_iconst C.1 (n := 2) dX12_closesSums_25 ?_
        refine x_icmp_eq C.1 (tgt := 37) dX12_closesSums_26 (by decide) (by omega) (by decide) (fun hc89 => ?_) (fun hc89 => ?_)
        · replace hF := hF.to (if_pos hc89)
          refine x_aload_n C.1 dX12_closesSums_37 0 rfl ?_
          refine x_aload_n C.1 dX12_closesSums_38 0 rfl ?_
          refine x_callVi C (As := []) (rest := [.ref (ad 0)]) 0 (xw_at (N := 33) (i := 0) (by decide) rfl) vc_X12 (m_waitTop l D cy ad G V65 J Rr hI65 hJ hR ) (l1 := []) (l2 := []) (List.append_nil _).symm (w2 := fun _ => MW cy ad V65 J Rr) (fun _ => List.append_nil _) rfl wm_yX12_waitTop wn_X12 wl_X12_177 wi_yX12_waitTop we_yX12_waitTop hd_yX12_waitTop rfl ⟨Nat.le_of_ble_eq_true rfl, Nat.le_of_ble_eq_true rfl⟩ (Nat.le_of_ble_eq_true rfl) ⟨Nat.le_of_ble_eq_true rfl, Nat.le_of_ble_eq_true rfl⟩ dX12_closesSums_39 (fun z90 u90 bz90 h90 => ?_)
          obtain ⟨hx90_0, hFc90⟩ := h90
          replace hF := calR_i hF hFc90
          refine x_iconst C.1 (n := 0) dX12_closesSums_42 ?_
          have hm0 := (ptop_n (V := V65) (by omega)).1
          rw [ez68] at hm0
          refine x_callVv C (As := [vI z90, vI 0]) (rest := []) 0 (xw_at (N := 33) (i := 0) (by decide) rfl) vc_X12 (m_notes l D cy ad G V65 J Rr hI65 hJ hR z90 ⟨by omega, by omega⟩ 0 ⟨by decide, by decide⟩ (by rw [ez67]; omega)) (l1 := []) (l2 := []) (List.append_nil _).symm (w2 := fun u : Nat → Nat → Int => MW cy ad u J Rr) (fun _ => List.append_nil _) rfl wm_yX12_notes wn_X12 wl_X12_180 wi_yX12_notes we_yX12_notes hd_yX12_notes rfl ⟨Nat.le_of_ble_eq_true rfl, Nat.le_of_ble_eq_true rfl⟩ (Nat.le_of_ble_eq_true rfl) ⟨Nat.le_of_ble_eq_true rfl, Nat.le_of_ble_eq_true rfl⟩ dX12_closesSums_43 (fun V91 h91 => ?_)
          obtain ⟨hI91, hx91_0, hBc91, hFc91⟩ := h91
          replace hF := calUM_i hF hFc91 hBc91
          have hB91 := hB65.tr hBc91 (m := 590295810358705652736) rfl
          refine x_aload_n C.1 dX12_closesSums_46 0 rfl ?_
          refine x_aload_n C.1 dX12_closesSums_47 0 rfl ?_
          refine x_getI C (N := 33) (i := 0) (by decide) rfl vc_X12 wx_X12 11 (by decide) wf_X12_174 rfl dX12_closesSums_48 (a := z68) ((congrFun (congrFun hx91_0 0) (11)).trans ((up2_n _ _ (Or.inr (by decide))).trans ((up2_n _ _ (Or.inl (by decide))).trans ez68))) ?_
          refine x_iconst C.1 (n := 1) dX12_closesSums_51 ?_
          refine x_isub C.1 (v := z68 - 1) (by omega) dX12_closesSums_52 ?_
          refine x_putI C (N := 33) (i := 0) (by decide) rfl vc_X12 wx_X12 11 (by decide) wf_X12_174 tyX12 tyX12_ok nmX12 rfl (tyX12_ok 11 (by decide)) rfl dX12_closesSums_53 rfl rfl ?_
          refine x_gV ?_
          intro V92 hV92
          have hI92 : MI G V92 := hI91.up hV92 rfl (by omega) rfl (Or.inl (by decide))
          have hB92 := hB91.up hV92 rfl
          replace hF := hF.to (rdb_e (z := V92) hV92.symm)
          refine x_goto C.1 (tgt := 0) dX12_closesSums_56 (by decide) ?_
          have hm1 := ((congrFun (congrFun hV92 0) 11).trans (up2_s _ _ _ _))
          have hm2 := ez68
          have hm3 := (ptop_n (V := V65) (by omega)).1
          have hmu65 : (V92 0 11).toNat < (V65 0 11).toNat := (by omega)
          exact ih65 V92 ⟨hI92, hB92, (pCL.step hcl hb ⟨by omega, by omega⟩ (by rw [hV92, hx91_0, ← hx90_0, ez68])), ⟨nf65, Nat.lt_of_lt_of_le hmu65 (Nat.le_of_lt_succ hn65), hF⟩⟩ hmu65
        · replace hF := hF.to (if_neg hc89)
          refine x_aload_n C.1 dX12_closesSums_29 0 rfl ?_
          refine x_callVi C (As := []) (rest := []) 0 (xw_at (N := 33) (i := 0) (by decide) rfl) vc_X12 (m_waitTop l D cy ad G V65 J Rr hI65 hJ hR ) (l1 := []) (l2 := []) (List.append_nil _).symm (w2 := fun _ => MW cy ad V65 J Rr) (fun _ => List.append_nil _) rfl wm_yX12_waitTop wn_X12 wl_X12_177 wi_yX12_waitTop we_yX12_waitTop hd_yX12_waitTop rfl ⟨Nat.le_of_ble_eq_true rfl, Nat.le_of_ble_eq_true rfl⟩ (Nat.le_of_ble_eq_true rfl) ⟨Nat.le_of_ble_eq_true rfl, Nat.le_of_ble_eq_true rfl⟩ dX12_closesSums_30 (fun z93 u93 bz93 h93 => ?_)
          obtain ⟨hx93_0, hFc93⟩ := h93
          replace hF := calR_i hF hFc93
          refine x_iconst C.1 (n := 3) dX12_closesSums_33 ?_
          refine x_icmp_ne C.1 (tgt := 59) dX12_closesSums_34 (by decide) (by omega) (by decide) (fun hc94 => ?_) (fun hc94 => ?_)
          · replace hF := hF.to (if_pos hc94)
            exact x_vret (S := (Nat → Nat → Int)) (post := (fun u : Nat → Nat → Int => MI G u ∧ pCL b c0 d V u ∧ (x1 = 1 → u 0 11 = b ∨ (b < u 0 11 ∧ pdv (V 6 (u 0 11 - 1).toNat) = 14)) ∧ FBm 590295810358705654784 V u ∧ (f_m_closesSums x1 V J Rr) u)) (w1 := (fun u : Nat → Nat → Int => MW cy ad u J Rr)) C hr rfl dX12_closesSums_59 V65 rfl ⟨hI65, hcl, (fun h1 => hcl.top (by omega)), hB65, hF _ rfl⟩
          · replace hF := hF.to (if_neg (fun hh => hh hc94))
            refine x_aload_n C.1 dX12_closesSums_37 0 rfl ?_
            refine x_aload_n C.1 dX12_closesSums_38 0 rfl ?_
            refine x_callVi C (As := []) (rest := [.ref (ad 0)]) 0 (xw_at (N := 33) (i := 0) (by decide) rfl) vc_X12 (m_waitTop l D cy ad G V65 J Rr hI65 hJ hR ) (l1 := []) (l2 := []) (List.append_nil _).symm (w2 := fun _ => MW cy ad V65 J Rr) (fun _ => List.append_nil _) rfl wm_yX12_waitTop wn_X12 wl_X12_177 wi_yX12_waitTop we_yX12_waitTop hd_yX12_waitTop rfl ⟨Nat.le_of_ble_eq_true rfl, Nat.le_of_ble_eq_true rfl⟩ (Nat.le_of_ble_eq_true rfl) ⟨Nat.le_of_ble_eq_true rfl, Nat.le_of_ble_eq_true rfl⟩ dX12_closesSums_39 (fun z95 u95 bz95 h95 => ?_)
            obtain ⟨hx95_0, hFc95⟩ := h95
            replace hF := calR_i hF hFc95
            refine x_iconst C.1 (n := 0) dX12_closesSums_42 ?_
            have hm0 := (ptop_n (V := V65) (by omega)).1
            rw [ez68] at hm0
            refine x_callVv C (As := [vI z95, vI 0]) (rest := []) 0 (xw_at (N := 33) (i := 0) (by decide) rfl) vc_X12 (m_notes l D cy ad G V65 J Rr hI65 hJ hR z95 ⟨by omega, by omega⟩ 0 ⟨by decide, by decide⟩ (by rw [ez67]; omega)) (l1 := []) (l2 := []) (List.append_nil _).symm (w2 := fun u : Nat → Nat → Int => MW cy ad u J Rr) (fun _ => List.append_nil _) rfl wm_yX12_notes wn_X12 wl_X12_180 wi_yX12_notes we_yX12_notes hd_yX12_notes rfl ⟨Nat.le_of_ble_eq_true rfl, Nat.le_of_ble_eq_true rfl⟩ (Nat.le_of_ble_eq_true rfl) ⟨Nat.le_of_ble_eq_true rfl, Nat.le_of_ble_eq_true rfl⟩ dX12_closesSums_43 (fun V96 h96 => ?_)
            obtain ⟨hI96, hx96_0, hBc96, hFc96⟩ := h96
            replace hF := calUM_i hF hFc96 hBc96
            have hB96 := hB65.tr hBc96 (m := 590295810358705652736) rfl
            refine x_aload_n C.1 dX12_closesSums_46 0 rfl ?_
            refine x_aload_n C.1 dX12_closesSums_47 0 rfl ?_
            refine x_getI C (N := 33) (i := 0) (by decide) rfl vc_X12 wx_X12 11 (by decide) wf_X12_174 rfl dX12_closesSums_48 (a := z68) ((congrFun (congrFun hx96_0 0) (11)).trans ((up2_n _ _ (Or.inr (by decide))).trans ((up2_n _ _ (Or.inl (by decide))).trans ez68))) ?_
            refine x_iconst C.1 (n := 1) dX12_closesSums_51 ?_
            refine x_isub C.1 (v := z68 - 1) (by omega) dX12_closesSums_52 ?_
            refine x_putI C (N := 33) (i := 0) (by decide) rfl vc_X12 wx_X12 11 (by decide) wf_X12_174 tyX12 tyX12_ok nmX12 rfl (tyX12_ok 11 (by decide)) rfl dX12_closesSums_53 rfl rfl ?_
            refine x_gV ?_
            intro V97 hV97
            have hI97 : MI G V97 := hI96.up hV97 rfl (by omega) rfl (Or.inl (by decide))
            have hB97 := hB96.up hV97 rfl
            replace hF := hF.to (rdb_e (z := V97) hV97.symm)
            refine x_goto C.1 (tgt := 0) dX12_closesSums_56 (by decide) ?_
            have hm1 := ((congrFun (congrFun hV97 0) 11).trans (up2_s _ _ _ _))
            have hm2 := ez68
            have hm3 := (ptop_n (V := V65) (by omega)).1
            have hmu65 : (V97 0 11).toNat < (V65 0 11).toNat := (by omega)
            exact ih65 V97 ⟨hI97, hB97, (pCL.step hcl hb ⟨by omega, by omega⟩ (by rw [hV97, hx96_0, ← hx95_0, ez68])), ⟨nf65, Nat.lt_of_lt_of_le hmu65 (Nat.le_of_lt_succ hn65), hF⟩⟩ hmu65
theorem hd_yX12_isDigit : yX12_isDigit.cls ≠ "java/lang/invoke/MethodHandle" ∧ yX12_isDigit.cls ≠ "java/lang/invoke/VarHandle" ∧ (parseMethodDescriptor yX12_isDigit.desc).map (fun d => d.parameters.length) = some 0 := by decide +kernel
theorem dX12_readsNumber_0 : decode cX12_readsNumber 0 = .ok (.aload_n 0, 1) := by decide +kernel
theorem dX12_readsNumber_1 : decode cX12_readsNumber 1 = .ok (.getfield 144, 3) := by decide +kernel
theorem dX12_readsNumber_4 : decode cX12_readsNumber 4 = .ok (.istore_n 1, 1) := by decide +kernel
theorem dX12_readsNumber_5 : decode cX12_readsNumber 5 = .ok (.aload_n 0, 1) := by decide +kernel
theorem dX12_readsNumber_6 : decode cX12_readsNumber 6 = .ok (.iconst 0, 1) := by decide +kernel
theorem dX12_readsNumber_7 : decode cX12_readsNumber 7 = .ok (.putfield 160, 3) := by decide +kernel
theorem dX12_readsNumber_10 : decode cX12_readsNumber 10 = .ok (.aload_n 0, 1) := by decide +kernel
theorem dX12_readsNumber_11 : decode cX12_readsNumber 11 = .ok (.invokevirtual 163, 3) := by decide +kernel
theorem dX12_readsNumber_14 : decode cX12_readsNumber 14 = .ok (.ifCond .eq 55, 3) := by decide +kernel
theorem dX12_readsNumber_17 : decode cX12_readsNumber 17 = .ok (.aload_n 0, 1) := by decide +kernel
theorem dX12_readsNumber_18 : decode cX12_readsNumber 18 = .ok (.getfield 144, 3) := by decide +kernel
theorem dX12_readsNumber_21 : decode cX12_readsNumber 21 = .ok (.iload_n 1, 1) := by decide +kernel
theorem dX12_readsNumber_22 : decode cX12_readsNumber 22 = .ok (.iconst 5, 1) := by decide +kernel
theorem dX12_readsNumber_23 : decode cX12_readsNumber 23 = .ok (.iadd, 1) := by decide +kernel
theorem dX12_readsNumber_24 : decode cX12_readsNumber 24 = .ok (.if_icmp .ne 13, 3) := by decide +kernel
theorem dX12_readsNumber_27 : decode cX12_readsNumber 27 = .ok (.aload_n 0, 1) := by decide +kernel
theorem dX12_readsNumber_28 : decode cX12_readsNumber 28 = .ok (.iconst 2, 1) := by decide +kernel
theorem dX12_readsNumber_29 : decode cX12_readsNumber 29 = .ok (.aload_n 0, 1) := by decide +kernel
theorem dX12_readsNumber_30 : decode cX12_readsNumber 30 = .ok (.getfield 144, 3) := by decide +kernel
theorem dX12_readsNumber_33 : decode cX12_readsNumber 33 = .ok (.invokevirtual 157, 3) := by decide +kernel
theorem dX12_readsNumber_36 : decode cX12_readsNumber 36 = .ok (.ireturn, 1) := by decide +kernel
theorem dX12_readsNumber_37 : decode cX12_readsNumber 37 = .ok (.aload_n 0, 1) := by decide +kernel
theorem dX12_readsNumber_38 : decode cX12_readsNumber 38 = .ok (.bipush 10, 2) := by decide +kernel
theorem dX12_readsNumber_40 : decode cX12_readsNumber 40 = .ok (.aload_n 0, 1) := by decide +kernel
theorem dX12_readsNumber_41 : decode cX12_readsNumber 41 = .ok (.getfield 160, 3) := by decide +kernel
theorem dX12_readsNumber_44 : decode cX12_readsNumber 44 = .ok (.imul, 1) := by decide +kernel
theorem dX12_readsNumber_45 : decode cX12_readsNumber 45 = .ok (.aload_n 0, 1) := by decide +kernel
theorem dX12_readsNumber_46 : decode cX12_readsNumber 46 = .ok (.invokevirtual 150, 3) := by decide +kernel
theorem dX12_readsNumber_49 : decode cX12_readsNumber 49 = .ok (.iadd, 1) := by decide +kernel
theorem dX12_readsNumber_50 : decode cX12_readsNumber 50 = .ok (.bipush 48, 2) := by decide +kernel
theorem dX12_readsNumber_52 : decode cX12_readsNumber 52 = .ok (.isub, 1) := by decide +kernel
theorem dX12_readsNumber_53 : decode cX12_readsNumber 53 = .ok (.putfield 160, 3) := by decide +kernel
theorem dX12_readsNumber_56 : decode cX12_readsNumber 56 = .ok (.aload_n 0, 1) := by decide +kernel
theorem dX12_readsNumber_57 : decode cX12_readsNumber 57 = .ok (.aload_n 0, 1) := by decide +kernel
theorem dX12_readsNumber_58 : decode cX12_readsNumber 58 = .ok (.getfield 144, 3) := by decide +kernel
theorem dX12_readsNumber_61 : decode cX12_readsNumber 61 = .ok (.iconst 1, 1) := by decide +kernel
theorem dX12_readsNumber_62 : decode cX12_readsNumber 62 = .ok (.iadd, 1) := by decide +kernel
theorem dX12_readsNumber_63 : decode cX12_readsNumber 63 = .ok (.putfield 144, 3) := by decide +kernel
theorem dX12_readsNumber_66 : decode cX12_readsNumber 66 = .ok (.goto (-56), 3) := by decide +kernel
theorem dX12_readsNumber_69 : decode cX12_readsNumber 69 = .ok (.iconst 1, 1) := by decide +kernel
theorem dX12_readsNumber_70 : decode cX12_readsNumber 70 = .ok (.ireturn, 1) := by decide +kernel
set_option maxRecDepth 100000 in
def f_m_readsNumber (V : Nat → Nat → Int) (J : Nat → Nat → Int) (Rr : Nat → Nat → Nat) : (Int × (Nat → Nat → Int)) → Prop :=
  rdb (V 0 5) fun z1 => fct (0 ≤ z1 ∧ z1 ≤ 220) <| rdb (V 0 6) fun z2 => fct (0 ≤ z2 ∧ z2 ≤ 220) <| rdb (up2 V 0 8 0) fun V3 => lop1 ((V3 0 6 - V3 0 5).toNat + 1) (fun rc28 (V28 : Nat → Nat → Int) => rdb (V28 0 5) fun z29 => fct (0 ≤ z29 ∧ z29 ≤ 220) <| rdb (V28 0 6) fun z30 => fct (0 ≤ z30 ∧ z30 ≤ 220) <| rdb (V28 0 8) fun z31 => calR (f_m_isDigit V28 J Rr) fun z32 => fct (0 ≤ z32 ∧ z32 ≤ 1) <| (if z32 = 0 then rtn (1, V28) else (if ¬ z29 = z1 + 5 then calR (f_m_here V28 J Rr) fun z37 => fct (-1 ≤ z37 ∧ z37 ≤ 255) <| rdb (up2 V28 0 8 (10 * z31 + z37 - 48)) fun V38 => rdb (up2 V38 0 5 (z29 + 1)) fun V39 => rc28 V39 else calVM 128 V28 (f_m_wrongAt 2 z29 V28 J Rr) fun z40 V40 => fct (0 ≤ z40 ∧ z40 ≤ 0) <| rtn (z40, V40)))) V3
set_option maxHeartbeats 8000000 in
set_option maxRecDepth 100000 in
theorem m_readsNumber (l : Launch) (D : va_G) (cy : Nat → ClassId) (ad : Nat → Nat) (G : Nat → Nat → Int) (V J : Nat → Nat → Int) (Rr : Nat → Nat → Nat) (hI : MI G V) (hJ : VJ J) (hR : MR Rr) (hpg : V 0 5 ≤ V 0 6) : xMi l D (xTY cy) yX12_readsNumber cX12_readsNumber 2 (some .boolean) 2 40 0 0 [.ref (ad 0)] (MW cy ad V J Rr) (fun u : Nat → Nat → Int => MW cy ad u J Rr) (fun a (u : Nat → Nat → Int) => MI G u ∧ (0 ≤ a ∧ a ≤ 1) ∧ (Sp a ((0 ≤ u 0 8 ∧ u 0 8 ≤ 99999) ∧ (V 0 5 < u 0 5 ∨ ¬ (48 ≤ hrM V ∧ hrM V ≤ 57)) ∧ u 0 5 ≤ u 0 6 ∧ (∀ i k : Nat, (i ≠ 0 ∨ (k ≠ 5 ∧ k ≠ 7 ∧ k ≠ 8)) → u i k = V i k))) ∧ FBm 416 V u ∧ (f_m_readsNumber V J Rr) (a, u)) := by
  refine xMi.mk (lv0 := [(0, .ref (ad 0))]) (by decide) rfl (Nat.le_of_ble_eq_true rfl) (fun p e s m below meth c A C hr hnm hAe => ?_)
  have C : xC2 p s m _ meth c D A s.heap 2 cX12_readsNumber RX12 (xTY cy) := C
  have hB : FBm 416 V V := FBm.rf _ _
  have hF := Imp.of_eq (f_m_readsNumber.eq_def V J Rr)
  obtain ⟨z1, ez1, bz1⟩ := hI.rd 0 5 (x := 0) (y := 220) rfl
  replace hF := hF.to (rdb_e (z := z1) ez1)
  replace hF := hF.fc bz1
  obtain ⟨z2, ez2, bz2⟩ := hI.rd 0 6 (x := 0) (y := 220) rfl
  replace hF := hF.to (rdb_e (z := z2) ez2)
  replace hF := hF.fc bz2
  rw [ez1, ez2] at hpg
  refine x_aload_n C.1 dX12_readsNumber_0 0 rfl ?_
  refine x_getI C (N := 33) (i := 0) (by decide) rfl vc_X12 wx_X12 5 (by decide) wf_X12_144 rfl dX12_readsNumber_1 (a := z1) ez1 ?_
  refine x_istore_n C.1 (lv' := [(1, vI z1), (0, .ref (ad 0))]) dX12_readsNumber_4 (by decide) rfl ?_
  refine x_aload_n C.1 dX12_readsNumber_5 1 rfl ?_
  refine x_iconst C.1 (n := 0) dX12_readsNumber_6 ?_
  refine x_putI C (N := 33) (i := 0) (by decide) rfl vc_X12 wx_X12 8 (by decide) wf_X12_160 tyX12 tyX12_ok nmX12 rfl (tyX12_ok 8 (by decide)) rfl dX12_readsNumber_7 rfl rfl ?_
  refine x_gV ?_
  intro V3 hV3
  have hI3 : MI G V3 := hI.up hV3 rfl (by decide) rfl (Or.inl (by decide))
  have hB3 := hB.up hV3 rfl
  replace hF := hF.to (rdb_e (z := V3) hV3.symm)
  obtain ⟨bd28, hbd28, hF⟩ := lop1_ex hF
  refine x_loop (I := fun V28 : (Nat → Nat → Int) => MI G V28 ∧ FBm 416 V V28 ∧ ((V28 0 5 = V 0 5 + 0 ∧ 0 ≤ V28 0 8 ∧ V28 0 8 ≤ 0) ∨ (V28 0 5 = V 0 5 + 1 ∧ 0 ≤ V28 0 8 ∧ V28 0 8 ≤ 9) ∨ (V28 0 5 = V 0 5 + 2 ∧ 0 ≤ V28 0 8 ∧ V28 0 8 ≤ 99) ∨ (V28 0 5 = V 0 5 + 3 ∧ 0 ≤ V28 0 8 ∧ V28 0 8 ≤ 999) ∨ (V28 0 5 = V 0 5 + 4 ∧ 0 ≤ V28 0 8 ∧ V28 0 8 ≤ 9999) ∨ (V28 0 5 = V 0 5 + 5 ∧ 0 ≤ V28 0 8 ∧ V28 0 8 ≤ 99999)) ∧ V28 0 5 ≤ V28 0 6 ∧ (∀ i k : Nat, (i ≠ 0 ∨ (k ≠ 5 ∧ k ≠ 7 ∧ k ≠ 8)) → V28 i k = V i k) ∧ (V28 0 5 = V 0 5 → hrM V28 = hrM V) ∧ (∃ nf : Nat, (V28 0 6 - V28 0 5).toNat < nf ∧ Imp (lop1 nf bd28 V28) (f_m_readsNumber V J Rr))) (μ := fun V28 : (Nat → Nat → Int) => (V28 0 6 - V28 0 5).toNat) (wsf := fun V28 : (Nat → Nat → Int) => MW cy ad V28 J Rr) (lvf := fun V28 : (Nat → Nat → Int) => [(1, vI z1), (0, .ref (ad 0))]) (fun V28 hI28x ih28 => ?_) V3 ⟨hI3, hB3, (by rw [hV3, up2_s, up2_n _ _ (Or.inr (show (5 : Nat) ≠ 8 by decide))]; omega), (by rw [((congrFun (congrFun hV3 0) 5).trans ((up2_n _ _ (Or.inr (by decide))).trans ez1)), ((congrFun (congrFun hV3 0) 6).trans ((up2_n _ _ (Or.inr (by decide))).trans ez2))]; omega), (fun i k hik => (congrFun (congrFun hV3 i) k).trans (up2_n _ _ (by omega))), (fun _ => hrM_8 hV3), ⟨_, (Nat.lt_succ_self _), hF⟩⟩ rfl rfl
  obtain ⟨hI28, hB28, hd, hpl, hfr, hhr, nf28, hn28, hF⟩ := hI28x
  try dsimp only
  obtain ⟨nf28, rfl⟩ : ∃ mm, nf28 = mm + 1 := ⟨nf28 - 1, (Nat.succ_pred_eq_of_pos (Nat.lt_of_le_of_lt (Nat.zero_le _) hn28)).symm⟩
  replace hF := hF.to (lop1_s hbd28)
  obtain ⟨z29, ez29, bz29⟩ := hI28.rd 0 5 (x := 0) (y := 220) rfl
  replace hF := hF.to (rdb_e (z := z29) ez29)
  replace hF := hF.fc bz29
  obtain ⟨z30, ez30, bz30⟩ := hI28.rd 0 6 (x := 0) (y := 220) rfl
  replace hF := hF.to (rdb_e (z := z30) ez30)
  replace hF := hF.fc bz30
  obtain ⟨z31, ez31, bz31⟩ := hI28.rd 0 8 (x := -2147483648) (y := 2147483647) rfl
  replace hF := hF.to (rdb_e (z := z31) ez31)
  rw [ez29, ez31, ez1] at hd
  rw [ez29, ez30] at hpl
  refine x_aload_n C.1 dX12_readsNumber_10 1 rfl ?_
  refine x_callVi C (As := []) (rest := []) 0 (xw_at (N := 33) (i := 0) (by decide) rfl) vc_X12 (m_isDigit l D cy ad G V28 J Rr hI28 hJ hR ) (l1 := []) (l2 := []) (List.append_nil _).symm (w2 := fun _ => MW cy ad V28 J Rr) (fun _ => List.append_nil _) rfl wm_yX12_isDigit wn_X12 wl_X12_163 wi_yX12_isDigit we_yX12_isDigit hd_yX12_isDigit rfl ⟨Nat.le_of_ble_eq_true rfl, Nat.le_of_ble_eq_true rfl⟩ (Nat.le_of_ble_eq_true rfl) ⟨Nat.le_of_ble_eq_true rfl, Nat.le_of_ble_eq_true rfl⟩ dX12_readsNumber_11 (fun z32 u32 bz32 h32 => ?_)
  obtain ⟨bq32, hx32_0, hFc32⟩ := h32
  replace hF := calR_i hF hFc32
  replace hF := hF.fc bq32
  refine x_if_eq C.1 (tgt := 69) dX12_readsNumber_14 (by decide) (by omega) (fun hc33 => ?_) (fun hc33 => ?_)
  · replace hF := hF.to (if_pos hc33)
    have hof34 := Sq.off hx32_0 (by omega)
    refine x_iconst C.1 (n := 1) dX12_readsNumber_69 ?_
    exact x_zret (S := (Nat → Nat → Int)) (post := (fun a (u : Nat → Nat → Int) => MI G u ∧ (0 ≤ a ∧ a ≤ 1) ∧ (Sp a ((0 ≤ u 0 8 ∧ u 0 8 ≤ 99999) ∧ (V 0 5 < u 0 5 ∨ ¬ (48 ≤ hrM V ∧ hrM V ≤ 57)) ∧ u 0 5 ≤ u 0 6 ∧ (∀ i k : Nat, (i ≠ 0 ∨ (k ≠ 5 ∧ k ≠ 7 ∧ k ≠ 8)) → u i k = V i k))) ∧ FBm 416 V u ∧ (f_m_readsNumber V J Rr) (a, u))) (w1 := (fun u : Nat → Nat → Int => MW cy ad u J Rr)) (a := 1) C hr rfl dX12_readsNumber_70 (by decide) V28 rfl ⟨hI28, ⟨by decide, by decide⟩, (Or.inr ⟨rfl, ⟨by rw [ez31]; omega, by rw [ez31]; omega⟩, (by by_cases hq : V28 0 5 = V 0 5; have := hhr hq; right; omega; left; rw [ez29, ez1] at hq ⊢; omega), by rw [ez29, ez30]; omega, hfr⟩), hB28, hF _ rfl⟩
  · replace hF := hF.to (if_neg hc33)
    have hon35 := Sq.on hx32_0 (by omega)
    have hlt35 := hrM_lt (V := V28) (by omega)
    rw [ez29, ez30] at hlt35
    refine x_aload_n C.1 dX12_readsNumber_17 1 rfl ?_
    refine x_getI C (N := 33) (i := 0) (by decide) rfl vc_X12 wx_X12 5 (by decide) wf_X12_144 rfl dX12_readsNumber_18 (a := z29) ez29 ?_
    refine x_iload_n C.1 dX12_readsNumber_21 0 rfl ?_
    refine x_iconst C.1 (n := 5) dX12_readsNumber_22 ?_
    refine x_iadd C.1 (v := z1 + 5) (by omega) dX12_readsNumber_23 ?_
    refine x_icmp_ne C.1 (tgt := 37) dX12_readsNumber_24 (by decide) (by omega) (by omega) (fun hc36 => ?_) (fun hc36 => ?_)
    · replace hF := hF.to (if_pos hc36)
      refine x_aload_n C.1 dX12_readsNumber_37 1 rfl ?_
      refine x_bipush C.1 (n := 10) dX12_readsNumber_38 ?_
      refine x_aload_n C.1 dX12_readsNumber_40 1 rfl ?_
      refine x_getI C (N := 33) (i := 0) (by decide) rfl vc_X12 wx_X12 8 (by decide) wf_X12_160 rfl dX12_readsNumber_41 (a := z31) ez31 ?_
      refine x_imul C.1 (v := 10 * z31) (by omega) dX12_readsNumber_44 ?_
      refine x_aload_n C.1 dX12_readsNumber_45 1 rfl ?_
      refine x_callVi C (As := []) (rest := [vI (10 * z31), .ref (ad 0)]) 0 (xw_at (N := 33) (i := 0) (by decide) rfl) vc_X12 (m_here l D cy ad G V28 J Rr hI28 hJ hR ) (l1 := []) (l2 := []) (List.append_nil _).symm (w2 := fun _ => MW cy ad V28 J Rr) (fun _ => List.append_nil _) rfl wm_yX12_here wn_X12 wl_X12_150 wi_yX12_here we_yX12_here hd_yX12_here rfl ⟨Nat.le_of_ble_eq_true rfl, Nat.le_of_ble_eq_true rfl⟩ (Nat.le_of_ble_eq_true rfl) ⟨Nat.le_of_ble_eq_true rfl, Nat.le_of_ble_eq_true rfl⟩ dX12_readsNumber_46 (fun z37 u37 bz37 h37 => ?_)
      obtain ⟨bq37, hx37_0, hx37_1, hFc37⟩ := h37
      replace hF := calR_i hF hFc37
      replace hF := hF.fc bq37
      rw [ez29, ez30] at hx37_0
      refine x_iadd C.1 (v := 10 * z31 + z37) (by omega) dX12_readsNumber_49 ?_
      refine x_bipush C.1 (n := 48) dX12_readsNumber_50 ?_
      refine x_isub C.1 (v := 10 * z31 + z37 - 48) (by omega) dX12_readsNumber_52 ?_
      refine x_putI C (N := 33) (i := 0) (by decide) rfl vc_X12 wx_X12 8 (by decide) wf_X12_160 tyX12 tyX12_ok nmX12 rfl (tyX12_ok 8 (by decide)) rfl dX12_readsNumber_53 rfl rfl ?_
      refine x_gV ?_
      intro V38 hV38
      have hI38 : MI G V38 := hI28.up hV38 rfl (by omega) rfl (Or.inl (by decide))
      have hB38 := hB28.up hV38 rfl
      replace hF := hF.to (rdb_e (z := V38) hV38.symm)
      refine x_aload_n C.1 dX12_readsNumber_56 1 rfl ?_
      refine x_aload_n C.1 dX12_readsNumber_57 1 rfl ?_
      refine x_getI C (N := 33) (i := 0) (by decide) rfl vc_X12 wx_X12 5 (by decide) wf_X12_144 rfl dX12_readsNumber_58 (a := z29) ((congrFun (congrFun hV38 0) 5).trans ((up2_n _ _ (Or.inr (by decide))).trans ez29)) ?_
      refine x_iconst C.1 (n := 1) dX12_readsNumber_61 ?_
      refine x_iadd C.1 (v := z29 + 1) (by omega) dX12_readsNumber_62 ?_
      refine x_putI C (N := 33) (i := 0) (by decide) rfl vc_X12 wx_X12 5 (by decide) wf_X12_144 tyX12 tyX12_ok nmX12 rfl (tyX12_ok 5 (by decide)) rfl dX12_readsNumber_63 rfl rfl ?_
      refine x_gV ?_
      intro V39 hV39
      have hI39 : MI G V39 := hI38.up hV39 rfl (by omega) rfl (Or.inl (by decide))
      have hB39 := hB38.up hV39 rfl
      replace hF := hF.to (rdb_e (z := V39) hV39.symm)
      refine x_goto C.1 (tgt := 10) dX12_readsNumber_66 (by decide) ?_
      have hm1 := ((congrFun (congrFun hV39 0) 5).trans (up2_s _ _ _ _))
      have hm2 := ((congrFun (congrFun hV39 0) 6).trans ((up2_n _ _ (Or.inr (by decide))).trans ((congrFun (congrFun hV38 0) 6).trans ((up2_n _ _ (Or.inr (by decide))).trans ez30))))
      have hm3 := ez29
      have hm4 : V28 0 6 = z30 := ez30
      have hmu28 : (V39 0 6 - V39 0 5).toNat < (V28 0 6 - V28 0 5).toNat := (by omega)
      exact ih28 V39 ⟨hI39, hB39, (by rw [((congrFun (congrFun hV39 0) 5).trans (up2_s _ _ _ _)), ((congrFun (congrFun hV39 0) 8).trans ((up2_n _ _ (Or.inr (by decide))).trans ((congrFun (congrFun hV38 0) 8).trans (up2_s _ _ _ _)))), ez1]; rcases hd with hd | hd | hd | hd | hd | hd <;> first | exact Or.inl ⟨by omega, by omega, by omega⟩ | exact Or.inr (Or.inl ⟨by omega, by omega, by omega⟩) | exact Or.inr (Or.inr (Or.inl ⟨by omega, by omega, by omega⟩)) | exact Or.inr (Or.inr (Or.inr (Or.inl ⟨by omega, by omega, by omega⟩))) | exact Or.inr (Or.inr (Or.inr (Or.inr (Or.inl ⟨by omega, by omega, by omega⟩)))) | exact Or.inr (Or.inr (Or.inr (Or.inr (Or.inr ⟨by omega, by omega, by omega⟩)))) | (exfalso; omega)), (by rw [((congrFun (congrFun hV39 0) 5).trans (up2_s _ _ _ _)), ((congrFun (congrFun hV39 0) 6).trans ((up2_n _ _ (Or.inr (by decide))).trans ((congrFun (congrFun hV38 0) 6).trans ((up2_n _ _ (Or.inr (by decide))).trans ez30))))]; omega), (fun i k hik => (congrFun (congrFun hV39 i) k).trans ((up2_n _ _ (by omega)).trans ((congrFun (congrFun hV38 i) k).trans ((up2_n _ _ (by omega)).trans (hfr i k hik))))), (fun hq => absurd hq (by rw [((congrFun (congrFun hV39 0) 5).trans (up2_s _ _ _ _)), ez1]; omega)), ⟨nf28, Nat.lt_of_lt_of_le hmu28 (Nat.le_of_lt_succ hn28), hF⟩⟩ hmu28
    · replace hF := hF.to (if_neg (fun hh => hh hc36))
      refine x_aload_n C.1 dX12_readsNumber_27 1 rfl ?_
      refine x_iconst C.1 (n := 2) dX12_readsNumber_28 ?_
      refine x_aload_n C.1 dX12_readsNumber_29 1 rfl ?_
      refine x_getI C (N := 33) (i := 0) (by decide) rfl vc_X12 wx_X12 5 (by decide) wf_X12_144 rfl dX12_readsNumber_30 (a := z29) ez29 ?_
      refine x_callVi C (As := [vI 2, vI z29]) (rest := []) 0 (xw_at (N := 33) (i := 0) (by decide) rfl) vc_X12 (m_wrongAt l D cy ad G V28 J Rr hI28 hJ hR 2 ⟨by decide, by decide⟩ z29 ⟨by omega, by omega⟩) (l1 := []) (l2 := []) (List.append_nil _).symm (w2 := fun u : Nat → Nat → Int => MW cy ad u J Rr) (fun _ => List.append_nil _) rfl wm_yX12_wrongAt wn_X12 wl_X12_157 wi_yX12_wrongAt we_yX12_wrongAt hd_yX12_wrongAt rfl ⟨Nat.le_of_ble_eq_true rfl, Nat.le_of_ble_eq_true rfl⟩ (Nat.le_of_ble_eq_true rfl) ⟨Nat.le_of_ble_eq_true rfl, Nat.le_of_ble_eq_true rfl⟩ dX12_readsNumber_33 (fun z40 V40 bz40 h40 => ?_)
      obtain ⟨hI40, bq40, hx40_0, hBc40, hFc40⟩ := h40
      replace hF := calVM_i hF hFc40 hBc40
      replace hF := hF.fc bq40
      have hB40 := hB28.tr hBc40 (m := 128) rfl
      exact x_zret (S := (Nat → Nat → Int)) (post := (fun a (u : Nat → Nat → Int) => MI G u ∧ (0 ≤ a ∧ a ≤ 1) ∧ (Sp a ((0 ≤ u 0 8 ∧ u 0 8 ≤ 99999) ∧ (V 0 5 < u 0 5 ∨ ¬ (48 ≤ hrM V ∧ hrM V ≤ 57)) ∧ u 0 5 ≤ u 0 6 ∧ (∀ i k : Nat, (i ≠ 0 ∨ (k ≠ 5 ∧ k ≠ 7 ∧ k ≠ 8)) → u i k = V i k))) ∧ FBm 416 V u ∧ (f_m_readsNumber V J Rr) (a, u))) (w1 := (fun u : Nat → Nat → Int => MW cy ad u J Rr)) (a := z40) C hr rfl dX12_readsNumber_36 (by omega) V40 rfl ⟨hI40, ⟨by omega, by omega⟩, (Or.inl (by omega)), hB40, hF _ rfl⟩
