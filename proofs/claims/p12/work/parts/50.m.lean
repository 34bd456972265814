theorem hd_yX12_comesTo : yX12_comesTo.cls ≠ "java/lang/invoke/MethodHandle" ∧ yX12_comesTo.cls ≠ "java/lang/invoke/VarHandle" ∧ (parseMethodDescriptor yX12_comesTo.desc).map (fun d => d.parameters.length) = some 2 := by decide +kernel
theorem dX12_byText_0 : decode cX12_byText 0 = .ok (.bipush 14, 2) := by decide +kernel
theorem dX12_byText_2 : decode cX12_byText 2 = .ok (.iload_n 1, 1) := by decide +kernel
theorem dX12_byText_3 : decode cX12_byText 3 = .ok (.imul, 1) := by decide +kernel
theorem dX12_byText_4 : decode cX12_byText 4 = .ok (.istore 4, 2) := by decide +kernel
theorem dX12_byText_6 : decode cX12_byText 6 = .ok (.iload 4, 2) := by decide +kernel
theorem dX12_byText_8 : decode cX12_byText 8 = .ok (.bipush 14, 2) := by decide +kernel
theorem dX12_byText_10 : decode cX12_byText 10 = .ok (.iload_n 1, 1) := by decide +kernel
theorem dX12_byText_11 : decode cX12_byText 11 = .ok (.imul, 1) := by decide +kernel
theorem dX12_byText_12 : decode cX12_byText 12 = .ok (.aload_n 0, 1) := by decide +kernel
theorem dX12_byText_13 : decode cX12_byText 13 = .ok (.getfield 44, 3) := by decide +kernel
theorem dX12_byText_16 : decode cX12_byText 16 = .ok (.iload_n 1, 1) := by decide +kernel
theorem dX12_byText_17 : decode cX12_byText 17 = .ok (.iaload, 1) := by decide +kernel
theorem dX12_byText_18 : decode cX12_byText 18 = .ok (.iadd, 1) := by decide +kernel
theorem dX12_byText_19 : decode cX12_byText 19 = .ok (.if_icmp .ge 87, 3) := by decide +kernel
theorem dX12_byText_22 : decode cX12_byText 22 = .ok (.aload_n 0, 1) := by decide +kernel
theorem dX12_byText_23 : decode cX12_byText 23 = .ok (.getfield 47, 3) := by decide +kernel
theorem dX12_byText_26 : decode cX12_byText 26 = .ok (.iload 4, 2) := by decide +kernel
theorem dX12_byText_28 : decode cX12_byText 28 = .ok (.iaload, 1) := by decide +kernel
theorem dX12_byText_29 : decode cX12_byText 29 = .ok (.iload_n 2, 1) := by decide +kernel
theorem dX12_byText_30 : decode cX12_byText 30 = .ok (.if_icmp .ne 70, 3) := by decide +kernel
theorem dX12_byText_33 : decode cX12_byText 33 = .ok (.aload_n 0, 1) := by decide +kernel
theorem dX12_byText_34 : decode cX12_byText 34 = .ok (.aload_n 0, 1) := by decide +kernel
theorem dX12_byText_35 : decode cX12_byText 35 = .ok (.getfield 53, 3) := by decide +kernel
theorem dX12_byText_38 : decode cX12_byText 38 = .ok (.iload 4, 2) := by decide +kernel
theorem dX12_byText_40 : decode cX12_byText 40 = .ok (.iaload, 1) := by decide +kernel
theorem dX12_byText_41 : decode cX12_byText 41 = .ok (.aload_n 0, 1) := by decide +kernel
theorem dX12_byText_42 : decode cX12_byText 42 = .ok (.getfield 56, 3) := by decide +kernel
theorem dX12_byText_45 : decode cX12_byText 45 = .ok (.iload 4, 2) := by decide +kernel
theorem dX12_byText_47 : decode cX12_byText 47 = .ok (.iaload, 1) := by decide +kernel
theorem dX12_byText_48 : decode cX12_byText 48 = .ok (.invokevirtual 244, 3) := by decide +kernel
theorem dX12_byText_51 : decode cX12_byText 51 = .ok (.iconst 1, 1) := by decide +kernel
theorem dX12_byText_52 : decode cX12_byText 52 = .ok (.if_icmp .eq 6, 3) := by decide +kernel
theorem dX12_byText_55 : decode cX12_byText 55 = .ok (.goto 45, 3) := by decide +kernel
theorem dX12_byText_58 : decode cX12_byText 58 = .ok (.aload_n 0, 1) := by decide +kernel
theorem dX12_byText_59 : decode cX12_byText 59 = .ok (.aload_n 0, 1) := by decide +kernel
theorem dX12_byText_60 : decode cX12_byText 60 = .ok (.getfield 50, 3) := by decide +kernel
theorem dX12_byText_63 : decode cX12_byText 63 = .ok (.iload 4, 2) := by decide +kernel
theorem dX12_byText_65 : decode cX12_byText 65 = .ok (.iaload, 1) := by decide +kernel
theorem dX12_byText_66 : decode cX12_byText 66 = .ok (.aload_n 0, 1) := by decide +kernel
theorem dX12_byText_67 : decode cX12_byText 67 = .ok (.getfield 53, 3) := by decide +kernel
theorem dX12_byText_70 : decode cX12_byText 70 = .ok (.iload 4, 2) := by decide +kernel
theorem dX12_byText_72 : decode cX12_byText 72 = .ok (.iaload, 1) := by decide +kernel
theorem dX12_byText_73 : decode cX12_byText 73 = .ok (.invokevirtual 244, 3) := by decide +kernel
theorem dX12_byText_76 : decode cX12_byText 76 = .ok (.istore 5, 2) := by decide +kernel
theorem dX12_byText_78 : decode cX12_byText 78 = .ok (.iload 5, 2) := by decide +kernel
theorem dX12_byText_80 : decode cX12_byText 80 = .ok (.ifCond .ge 7, 3) := by decide +kernel
theorem dX12_byText_83 : decode cX12_byText 83 = .ok (.iconst 0, 1) := by decide +kernel
theorem dX12_byText_84 : decode cX12_byText 84 = .ok (.goto 15, 3) := by decide +kernel
theorem dX12_byText_87 : decode cX12_byText 87 = .ok (.iload 5, 2) := by decide +kernel
theorem dX12_byText_89 : decode cX12_byText 89 = .ok (.iload_n 3, 1) := by decide +kernel
theorem dX12_byText_90 : decode cX12_byText 90 = .ok (.if_icmp .le 7, 3) := by decide +kernel
theorem dX12_byText_93 : decode cX12_byText 93 = .ok (.iload_n 3, 1) := by decide +kernel
theorem dX12_byText_94 : decode cX12_byText 94 = .ok (.goto 5, 3) := by decide +kernel
theorem dX12_byText_97 : decode cX12_byText 97 = .ok (.iload 5, 2) := by decide +kernel
theorem dX12_byText_99 : decode cX12_byText 99 = .ok (.ireturn, 1) := by decide +kernel
theorem dX12_byText_100 : decode cX12_byText 100 = .ok (.iinc 4 1, 3) := by decide +kernel
theorem dX12_byText_103 : decode cX12_byText 103 = .ok (.goto (-97), 3) := by decide +kernel
theorem dX12_byText_106 : decode cX12_byText 106 = .ok (.iconst 0, 1) := by decide +kernel
theorem dX12_byText_107 : decode cX12_byText 107 = .ok (.ireturn, 1) := by decide +kernel
set_option maxRecDepth 100000 in
def f_m_byText (x1 : Int) (x2 : Int) (x3 : Int) (V : Nat → Nat → Int) (J : Nat → Nat → Int) (Rr : Nat → Nat → Nat) : (Int × (Nat → Nat → Int)) → Prop :=
  lop2 (72) (fun rc43 (z42 : Int) (V43 : Nat → Nat → Int) => rdb (V43 12 x1.toNat) fun z57 => fct (0 ≤ z57 ∧ z57 ≤ 14) <| (if 14 * x1 + z57 ≤ z42 then rtn (0, V43) else rdb (V43 13 z42.toNat) fun z59 => (if ¬ z59 = x2 then rc43 (z42 + 1) V43 else rdb (V43 15 z42.toNat) fun z61 => rdb (V43 16 z42.toNat) fun z62 => calVM 2417851639229258349412352 V43 (f_m_comesTo z61 z62 V43 J Rr) fun z63 V63 => (if z63 = 1 then rdb (V63 14 z42.toNat) fun z65 => rdb (V63 15 z42.toNat) fun z66 => calVM 2417851639229258349412352 V63 (f_m_comesTo z65 z66 V63 J Rr) fun z67 V67 => (if 0 ≤ z67 then (if z67 ≤ x3 then rtn (z67, V67) else rtn (x3, V67)) else rtn (0, V67)) else rc43 (z42 + 1) V63)))) (14 * x1) V
set_option maxHeartbeats 8000000 in
set_option maxRecDepth 100000 in
theorem m_byText (l : Launch) (D : va_G) (cy : Nat → ClassId) (ad : Nat → Nat) (G : Nat → Nat → Int) (V J : Nat → Nat → Int) (Rr : Nat → Nat → Nat) {K : Nat → Nat → Int} (hI : AI K G V) (hJ : VJ J) (hR : MR Rr) (x1 : Int) (bx1 : 0 ≤ x1 ∧ x1 ≤ 4) (x2 : Int) (bx2 : -2147483648 ≤ x2 ∧ x2 ≤ 2147483647) (x3 : Int) (bx3 : 0 ≤ x3 ∧ x3 ≤ 999) (hW : WP G) : xMi l D (xTY cy) yX12_byText cX12_byText 6 (some .int) 2 49 0 0 [.ref (ad 0), vI x1, vI x2, vI x3] (MW cy ad V J Rr) (fun u : Nat → Nat → Int => MW cy ad u J Rr) (fun a (u : Nat → Nat → Int) => AI K G u ∧ (0 ≤ a ∧ a ≤ 999) ∧ FBm 2417851639229258349412352 V u ∧ (f_m_byText x1 x2 x3 V J Rr) (a, u)) := by
  refine xMi.mk (lv0 := [(0, .ref (ad 0)), (1, vI x1), (2, vI x2), (3, vI x3)]) (by decide) rfl (Nat.le_of_ble_eq_true rfl) (fun p e s m below meth c A C hr hnm hAe => ?_)
  have C : xC2 p s m _ meth c D A s.heap 6 cX12_byText RX12 (xTY cy) := C
  have hB : FBm 2417851639229258349412352 V V := FBm.rf _ _
  have hF := Imp.of_eq (f_m_byText.eq_def x1 x2 x3 V J Rr)
  refine x_bipush C.1 (n := 14) dX12_byText_0 ?_
  refine x_iload_n C.1 dX12_byText_2 1 rfl ?_
  refine x_imul C.1 (v := 14 * x1) (by omega) dX12_byText_3 ?_
  refine x_istore C.1 (lv' := [(4, vI (14 * x1)), (0, .ref (ad 0)), (1, vI x1), (2, vI x2), (3, vI x3)]) dX12_byText_4 (by decide) rfl ?_
  obtain ⟨bd43, hbd43, hF⟩ := lop2_ex hF
  refine x_loop (I := fun x : Int × (Nat → Nat → Int) => match x with | (z42, V43) => (0 ≤ z42 ∧ z42 ≤ 70) ∧ AI K G V43 ∧ FBm 2417851639229258349412352 V V43 ∧ 14 * x1 ≤ z42 ∧ (∃ nf : Nat, (71 - z42).toNat < nf ∧ Imp (lop2 nf bd43 z42 V43) (f_m_byText x1 x2 x3 V J Rr))) (μ := fun x : Int × (Nat → Nat → Int) => match x with | (z42, V43) => (71 - z42).toNat) (wsf := fun x : Int × (Nat → Nat → Int) => match x with | (z42, V43) => MW cy ad V43 J Rr) (lvf := fun x : Int × (Nat → Nat → Int) => match x with | (z42, V43) => [(4, vI z42), (0, .ref (ad 0)), (1, vI x1), (2, vI x2), (3, vI x3)]) (fun x hI43x ih43 => ?_) (14 * x1, V) ⟨⟨by omega, by omega⟩, hI, hB, (by omega), ⟨_, (by omega), hF⟩⟩ rfl rfl
  obtain ⟨z42, V43⟩ := x
  obtain ⟨bz42, hI43, hB43, hq1, nf43, hn43, hF⟩ := hI43x
  try dsimp only
  obtain ⟨nf43, rfl⟩ : ∃ mm, nf43 = mm + 1 := ⟨nf43 - 1, (Nat.succ_pred_eq_of_pos (Nat.lt_of_le_of_lt (Nat.zero_le _) hn43)).symm⟩
  replace hF := hF.to (lop2_s hbd43)
  refine x_iload C.1 dX12_byText_6 0 rfl ?_
  refine x_bipush C.1 (n := 14) dX12_byText_8 ?_
  refine x_iload_n C.1 dX12_byText_10 2 rfl ?_
  refine x_imul C.1 (v := 14 * x1) (by omega) dX12_byText_11 ?_
  refine x_aload_n C.1 dX12_byText_12 1 rfl ?_
  refine x_getA C (N := 33) (i := 0) (by decide) rfl vc_X12 wx_X12 20 (by decide) wf_X12_44 (a := 12) rfl dX12_byText_13 ?_
  refine x_iload_n C.1 dX12_byText_16 2 rfl ?_
  obtain ⟨z57, ez57, bz57⟩ := hI43.rd 12 x1.toNat (x := 0) (y := 14) rfl
  replace hF := hF.to (rdb_e (z := z57) ez57)
  replace hF := hF.fc bz57
  refine x_iald C (N := 33) (i := 12) (q := x1) (by decide) rfl (by omega) (by decide) dX12_byText_17 (a := z57) ez57 ?_
  refine x_iadd C.1 (v := 14 * x1 + z57) (by omega) dX12_byText_18 ?_
  refine x_icmp_ge C.1 (tgt := 106) dX12_byText_19 (by decide) (by omega) (by omega) (fun hc58 => ?_) (fun hc58 => ?_)
  · replace hF := hF.to (if_pos hc58)
    refine x_iconst C.1 (n := 0) dX12_byText_106 ?_
    exact x_iret (S := (Nat → Nat → Int)) (post := (fun a (u : Nat → Nat → Int) => AI K G u ∧ (0 ≤ a ∧ a ≤ 999) ∧ FBm 2417851639229258349412352 V u ∧ (f_m_byText x1 x2 x3 V J Rr) (a, u))) (w1 := (fun u : Nat → Nat → Int => MW cy ad u J Rr)) (a := 0) C hr rfl dX12_byText_107 (by decide) V43 rfl ⟨hI43, ⟨by decide, by decide⟩, hB43, hF _ rfl⟩
  · replace hF := hF.to (if_neg hc58)
    refine x_aload_n C.1 dX12_byText_22 1 rfl ?_
    refine x_getA C (N := 33) (i := 0) (by decide) rfl vc_X12 wx_X12 21 (by decide) wf_X12_47 (a := 13) rfl dX12_byText_23 ?_
    refine x_iload C.1 dX12_byText_26 0 rfl ?_
    obtain ⟨z59, ez59, bz59⟩ := hI43.rd 13 z42.toNat (x := -2147483648) (y := 2147483647) rfl
    replace hF := hF.to (rdb_e (z := z59) ez59)
    refine x_iald C (N := 33) (i := 13) (q := z42) (by decide) rfl (by omega) (by decide) dX12_byText_28 (a := z59) ez59 ?_
    refine x_iload_n C.1 dX12_byText_29 3 rfl ?_
    refine x_icmp_ne C.1 (tgt := 100) dX12_byText_30 (by decide) (by omega) (by omega) (fun hc60 => ?_) (fun hc60 => ?_)
    · replace hF := hF.to (if_pos hc60)
      refine x_iinc C.1 (v := z42 + 1) (lv' := [(4, vI (z42 + 1)), (0, .ref (ad 0)), (1, vI x1), (2, vI x2), (3, vI x3)]) (by omega) dX12_byText_100 0 rfl (by decide) rfl ?_
      refine x_goto C.1 (tgt := 6) dX12_byText_103 (by decide) ?_
      have hmu43 : (71 - (z42 + 1)).toNat < (71 - z42).toNat := (by omega)
      exact ih43 (z42 + 1, V43) ⟨⟨by omega, by omega⟩, hI43, hB43, (by omega), ⟨nf43, Nat.lt_of_lt_of_le hmu43 (Nat.le_of_lt_succ hn43), hF⟩⟩ hmu43
    · replace hF := hF.to (if_neg (fun hh => hh hc60))
      refine x_aload_n C.1 dX12_byText_33 1 rfl ?_
      refine x_aload_n C.1 dX12_byText_34 1 rfl ?_
      refine x_getA C (N := 33) (i := 0) (by decide) rfl vc_X12 wx_X12 23 (by decide) wf_X12_53 (a := 15) rfl dX12_byText_35 ?_
      refine x_iload C.1 dX12_byText_38 0 rfl ?_
      obtain ⟨z61, ez61, bz61⟩ := hI43.rd 15 z42.toNat (x := -2147483648) (y := 2147483647) rfl
      replace hF := hF.to (rdb_e (z := z61) ez61)
      refine x_iald C (N := 33) (i := 15) (q := z42) (by decide) rfl (by omega) (by decide) dX12_byText_40 (a := z61) ez61 ?_
      refine x_aload_n C.1 dX12_byText_41 1 rfl ?_
      refine x_getA C (N := 33) (i := 0) (by decide) rfl vc_X12 wx_X12 24 (by decide) wf_X12_56 (a := 16) rfl dX12_byText_42 ?_
      refine x_iload C.1 dX12_byText_45 0 rfl ?_
      obtain ⟨z62, ez62, bz62⟩ := hI43.rd 16 z42.toNat (x := -2147483648) (y := 2147483647) rfl
      replace hF := hF.to (rdb_e (z := z62) ez62)
      refine x_iald C (N := 33) (i := 16) (q := z42) (by decide) rfl (by omega) (by decide) dX12_byText_47 (a := z62) ez62 ?_
      have hg12 : G 12 x1.toNat = z57 := MI.g hI43.1 ez57 rfl
      have hg15 : G 15 z42.toNat = z61 := MI.g hI43.1 ez61 rfl
      have hg16 : G 16 z42.toNat = z62 := MI.g hI43.1 ez62 rfl
      have hx := hW z42.toNat (by omega) (by rw [show z42.toNat / 14 = x1.toNat by omega, hg12]; omega)
      unfold xCl at hx
      rw [show ((z42.toNat : Nat) : Int) / 14 = x1 by omega, hg15, hg16] at hx
      obtain ⟨hx1, hx2, hx3, hx4, hx5, hx6⟩ := hx
      refine x_callVi C (As := [vI z61, vI z62]) (rest := []) 0 (xw_at (N := 33) (i := 0) (by decide) rfl) vc_X12 (m_comesTo l D cy ad G V43 J Rr (KI.self hI43.1) hJ hR z61 ⟨by omega, by omega⟩ z62 ⟨by omega, by omega⟩ (by omega) (by omega) (by rw [show (220 * (z61 / 220) : Int) = 220 * x1 by omega]; exact hx6)) (l1 := []) (l2 := []) (List.append_nil _).symm (w2 := fun u : Nat → Nat → Int => MW cy ad u J Rr) (fun _ => List.append_nil _) rfl wm_yX12_comesTo wn_X12 wl_X12_244 wi_yX12_comesTo we_yX12_comesTo hd_yX12_comesTo rfl ⟨Nat.le_of_ble_eq_true rfl, Nat.le_of_ble_eq_true rfl⟩ (Nat.le_of_ble_eq_true rfl) ⟨Nat.le_of_ble_eq_true rfl, Nat.le_of_ble_eq_true rfl⟩ dX12_byText_48 (fun z63 V63 bz63 h63 => ?_)
      obtain ⟨hI63, hBc63, hFc63⟩ := h63
      replace hF := calVM_i hF hFc63 hBc63
      have hB63 := hB43.tr hBc63 (m := 2417851639229258349412352) rfl
      have hI63c : AI K G V63 := KI.back hI63 hI43 sub_AA
      refine x_iconst C.1 (n := 1) dX12_byText_51 ?_
      refine x_icmp_eq C.1 (tgt := 58) dX12_byText_52 (by decide) (by omega) (by decide) (fun hc64 => ?_) (fun hc64 => ?_)
      · replace hF := hF.to (if_pos hc64)
        refine x_aload_n C.1 dX12_byText_58 1 rfl ?_
        refine x_aload_n C.1 dX12_byText_59 1 rfl ?_
        refine x_getA C (N := 33) (i := 0) (by decide) rfl vc_X12 wx_X12 22 (by decide) wf_X12_50 (a := 14) rfl dX12_byText_60 ?_
        refine x_iload C.1 dX12_byText_63 0 rfl ?_
        obtain ⟨z65, ez65, bz65⟩ := hI63c.rd 14 z42.toNat (x := -2147483648) (y := 2147483647) rfl
        replace hF := hF.to (rdb_e (z := z65) ez65)
        refine x_iald C (N := 33) (i := 14) (q := z42) (by decide) rfl (by omega) (by decide) dX12_byText_65 (a := z65) ez65 ?_
        refine x_aload_n C.1 dX12_byText_66 1 rfl ?_
        refine x_getA C (N := 33) (i := 0) (by decide) rfl vc_X12 wx_X12 23 (by decide) wf_X12_53 (a := 15) rfl dX12_byText_67 ?_
        refine x_iload C.1 dX12_byText_70 0 rfl ?_
        obtain ⟨z66, ez66, bz66⟩ := hI63c.rd 15 z42.toNat (x := -2147483648) (y := 2147483647) rfl
        replace hF := hF.to (rdb_e (z := z66) ez66)
        refine x_iald C (N := 33) (i := 15) (q := z42) (by decide) rfl (by omega) (by decide) dX12_byText_72 (a := z66) ez66 ?_
        have hg14 : G 14 z42.toNat = z65 := MI.g hI63c.1 ez65 rfl
        have hg15b : z66 = z61 := (MI.g hI63c.1 ez66 rfl).symm.trans hg15
        rw [hg14] at hx1 hx2 hx5
        rw [← hg15b] at hx2 hx5
        refine x_callVi C (As := [vI z65, vI z66]) (rest := []) 0 (xw_at (N := 33) (i := 0) (by decide) rfl) vc_X12 (m_comesTo l D cy ad G V63 J Rr (KI.self hI63c.1) hJ hR z65 ⟨by omega, by omega⟩ z66 ⟨by omega, by omega⟩ (by omega) (by omega) (by rw [show (220 * (z65 / 220) : Int) = 220 * x1 by omega]; exact hx5)) (l1 := []) (l2 := []) (List.append_nil _).symm (w2 := fun u : Nat → Nat → Int => MW cy ad u J Rr) (fun _ => List.append_nil _) rfl wm_yX12_comesTo wn_X12 wl_X12_244 wi_yX12_comesTo we_yX12_comesTo hd_yX12_comesTo rfl ⟨Nat.le_of_ble_eq_true rfl, Nat.le_of_ble_eq_true rfl⟩ (Nat.le_of_ble_eq_true rfl) ⟨Nat.le_of_ble_eq_true rfl, Nat.le_of_ble_eq_true rfl⟩ dX12_byText_73 (fun z67 V67 bz67 h67 => ?_)
        obtain ⟨hI67, hBc67, hFc67⟩ := h67
        replace hF := calVM_i hF hFc67 hBc67
        have hB67 := hB63.tr hBc67 (m := 2417851639229258349412352) rfl
        have hI67c : AI K G V67 := KI.back hI67 hI63c sub_AA
        refine x_istore C.1 (lv' := [(5, vI z67), (4, vI z42), (0, .ref (ad 0)), (1, vI x1), (2, vI x2), (3, vI x3)]) dX12_byText_76 (by decide) rfl ?_
        refine x_iload C.1 dX12_byText_78 0 rfl ?_
        refine x_if_ge C.1 (tgt := 87) dX12_byText_80 (by decide) (by omega) (fun hc68 => ?_) (fun hc68 => ?_)
        · replace hF := hF.to (if_pos hc68)
          refine x_iload C.1 dX12_byText_87 0 rfl ?_
          refine x_iload_n C.1 dX12_byText_89 5 rfl ?_
          refine x_icmp_le C.1 (tgt := 97) dX12_byText_90 (by decide) (by omega) (by omega) (fun hc69 => ?_) (fun hc69 => ?_)
          · replace hF := hF.to (if_pos hc69)
            refine x_iload C.1 dX12_byText_97 0 rfl ?_
            exact x_iret (S := (Nat → Nat → Int)) (post := (fun a (u : Nat → Nat → Int) => AI K G u ∧ (0 ≤ a ∧ a ≤ 999) ∧ FBm 2417851639229258349412352 V u ∧ (f_m_byText x1 x2 x3 V J Rr) (a, u))) (w1 := (fun u : Nat → Nat → Int => MW cy ad u J Rr)) (a := z67) C hr rfl dX12_byText_99 (by omega) V67 rfl ⟨hI67c, ⟨by omega, by omega⟩, hB67, hF _ rfl⟩
          · replace hF := hF.to (if_neg hc69)
            refine x_iload_n C.1 dX12_byText_93 5 rfl ?_
            refine x_goto C.1 (tgt := 99) dX12_byText_94 (by decide) ?_
            exact x_iret (S := (Nat → Nat → Int)) (post := (fun a (u : Nat → Nat → Int) => AI K G u ∧ (0 ≤ a ∧ a ≤ 999) ∧ FBm 2417851639229258349412352 V u ∧ (f_m_byText x1 x2 x3 V J Rr) (a, u))) (w1 := (fun u : Nat → Nat → Int => MW cy ad u J Rr)) (a := x3) C hr rfl dX12_byText_99 (by omega) V67 rfl ⟨hI67c, ⟨by omega, by omega⟩, hB67, hF _ rfl⟩
        · replace hF := hF.to (if_neg hc68)
          refine x_iconst C.1 (n := 0) dX12_byText_83 ?_
          refine x_goto C.1 (tgt := 99) dX12_byText_84 (by decide) ?_
          exact x_iret (S := (Nat → Nat → Int)) (post := (fun a (u : Nat → Nat → Int) => AI K G u ∧ (0 ≤ a ∧ a ≤ 999) ∧ FBm 2417851639229258349412352 V u ∧ (f_m_byText x1 x2 x3 V J Rr) (a, u))) (w1 := (fun u : Nat → Nat → Int => MW cy ad u J Rr)) (a := 0) C hr rfl dX12_byText_99 (by decide) V67 rfl ⟨hI67c, ⟨by decide, by decide⟩, hB67, hF _ rfl⟩
      · replace hF := hF.to (if_neg hc64)
        refine x_goto C.1 (tgt := 100) dX12_byText_55 (by decide) ?_
        refine x_iinc C.1 (v := z42 + 1) (lv' := [(4, vI (z42 + 1)), (0, .ref (ad 0)), (1, vI x1), (2, vI x2), (3, vI x3)]) (by omega) dX12_byText_100 0 rfl (by decide) rfl ?_
        refine x_goto C.1 (tgt := 6) dX12_byText_103 (by decide) ?_
        have hmu43 : (71 - (z42 + 1)).toNat < (71 - z42).toNat := (by omega)
        exact ih43 (z42 + 1, V63) ⟨⟨by omega, by omega⟩, hI63c, hB63, (by omega), ⟨nf43, Nat.lt_of_lt_of_le hmu43 (Nat.le_of_lt_succ hn43), hF⟩⟩ hmu43
theorem hd_yX12_byText : yX12_byText.cls ≠ "java/lang/invoke/MethodHandle" ∧ yX12_byText.cls ≠ "java/lang/invoke/VarHandle" ∧ (parseMethodDescriptor yX12_byText.desc).map (fun d => d.parameters.length) = some 3 := by decide +kernel
theorem hd_yX12_feelsPlant : yX12_feelsPlant.cls ≠ "java/lang/invoke/MethodHandle" ∧ yX12_feelsPlant.cls ≠ "java/lang/invoke/VarHandle" ∧ (parseMethodDescriptor yX12_feelsPlant.desc).map (fun d => d.parameters.length) = some 1 := by decide +kernel
theorem dX12_cupsOf_0 : decode cX12_cupsOf 0 = .ok (.aload_n 0, 1) := by decide +kernel
theorem dX12_cupsOf_1 : decode cX12_cupsOf 1 = .ok (.iload_n 2, 1) := by decide +kernel
theorem dX12_cupsOf_2 : decode cX12_cupsOf 2 = .ok (.invokevirtual 253, 3) := by decide +kernel
theorem dX12_cupsOf_5 : decode cX12_cupsOf 5 = .ok (.aload_n 0, 1) := by decide +kernel
theorem dX12_cupsOf_6 : decode cX12_cupsOf 6 = .ok (.getfield 62, 3) := by decide +kernel
theorem dX12_cupsOf_9 : decode cX12_cupsOf 9 = .ok (.bipush 8, 2) := by decide +kernel
theorem dX12_cupsOf_11 : decode cX12_cupsOf 11 = .ok (.iload_n 1, 1) := by decide +kernel
theorem dX12_cupsOf_12 : decode cX12_cupsOf 12 = .ok (.iastore, 1) := by decide +kernel
theorem dX12_cupsOf_13 : decode cX12_cupsOf 13 = .ok (.aload_n 0, 1) := by decide +kernel
theorem dX12_cupsOf_14 : decode cX12_cupsOf 14 = .ok (.getfield 62, 3) := by decide +kernel
theorem dX12_cupsOf_17 : decode cX12_cupsOf 17 = .ok (.bipush 9, 2) := by decide +kernel
theorem dX12_cupsOf_19 : decode cX12_cupsOf 19 = .ok (.aload_n 0, 1) := by decide +kernel
theorem dX12_cupsOf_20 : decode cX12_cupsOf 20 = .ok (.getfield 7, 3) := by decide +kernel
theorem dX12_cupsOf_23 : decode cX12_cupsOf 23 = .ok (.bipush 52, 2) := by decide +kernel
theorem dX12_cupsOf_25 : decode cX12_cupsOf 25 = .ok (.iload_n 1, 1) := by decide +kernel
theorem dX12_cupsOf_26 : decode cX12_cupsOf 26 = .ok (.iadd, 1) := by decide +kernel
theorem dX12_cupsOf_27 : decode cX12_cupsOf 27 = .ok (.iaload, 1) := by decide +kernel
theorem dX12_cupsOf_28 : decode cX12_cupsOf 28 = .ok (.iastore, 1) := by decide +kernel
theorem dX12_cupsOf_29 : decode cX12_cupsOf 29 = .ok (.aload_n 0, 1) := by decide +kernel
theorem dX12_cupsOf_30 : decode cX12_cupsOf 30 = .ok (.getfield 62, 3) := by decide +kernel
theorem dX12_cupsOf_33 : decode cX12_cupsOf 33 = .ok (.bipush 12, 2) := by decide +kernel
theorem dX12_cupsOf_35 : decode cX12_cupsOf 35 = .ok (.aload_n 0, 1) := by decide +kernel
theorem dX12_cupsOf_36 : decode cX12_cupsOf 36 = .ok (.getfield 7, 3) := by decide +kernel
theorem dX12_cupsOf_39 : decode cX12_cupsOf 39 = .ok (.bipush 68, 2) := by decide +kernel
theorem dX12_cupsOf_41 : decode cX12_cupsOf 41 = .ok (.iload_n 1, 1) := by decide +kernel
theorem dX12_cupsOf_42 : decode cX12_cupsOf 42 = .ok (.iadd, 1) := by decide +kernel
theorem dX12_cupsOf_43 : decode cX12_cupsOf 43 = .ok (.iaload, 1) := by decide +kernel
theorem dX12_cupsOf_44 : decode cX12_cupsOf 44 = .ok (.iastore, 1) := by decide +kernel
theorem dX12_cupsOf_45 : decode cX12_cupsOf 45 = .ok (.aload_n 0, 1) := by decide +kernel
theorem dX12_cupsOf_46 : decode cX12_cupsOf 46 = .ok (.aload_n 0, 1) := by decide +kernel
theorem dX12_cupsOf_47 : decode cX12_cupsOf 47 = .ok (.getfield 7, 3) := by decide +kernel
theorem dX12_cupsOf_50 : decode cX12_cupsOf 50 = .ok (.bipush 60, 2) := by decide +kernel
theorem dX12_cupsOf_52 : decode cX12_cupsOf 52 = .ok (.iload_n 1, 1) := by decide +kernel
theorem dX12_cupsOf_53 : decode cX12_cupsOf 53 = .ok (.iadd, 1) := by decide +kernel
theorem dX12_cupsOf_54 : decode cX12_cupsOf 54 = .ok (.iaload, 1) := by decide +kernel
theorem dX12_cupsOf_55 : decode cX12_cupsOf 55 = .ok (.iconst 1, 1) := by decide +kernel
theorem dX12_cupsOf_56 : decode cX12_cupsOf 56 = .ok (.iadd, 1) := by decide +kernel
theorem dX12_cupsOf_57 : decode cX12_cupsOf 57 = .ok (.bipush 103, 2) := by decide +kernel
theorem dX12_cupsOf_59 : decode cX12_cupsOf 59 = .ok (.bipush 9, 2) := by decide +kernel
theorem dX12_cupsOf_61 : decode cX12_cupsOf 61 = .ok (.invokevirtual 256, 3) := by decide +kernel
theorem dX12_cupsOf_64 : decode cX12_cupsOf 64 = .ok (.ireturn, 1) := by decide +kernel
set_option maxRecDepth 100000 in
def f_m_cupsOf (x1 : Int) (x2 : Int) (V : Nat → Nat → Int) (J : Nat → Nat → Int) (Rr : Nat → Nat → Nat) : (Int × (Nat → Nat → Int)) → Prop :=
  calUM 4835703278458516698824704 V (f_m_feelsPlant x2 V J Rr) fun V1 => rdb (up2 V1 18 8 x1) fun V2 => rdb (V2 1 ((x1 + 52).toNat)) fun z3 => rdb (up2 V2 18 9 z3) fun V4 => rdb (V4 1 ((x1 + 68).toNat)) fun z5 => rdb (up2 V4 18 12 z5) fun V6 => rdb (V6 1 ((x1 + 60).toNat)) fun z7 => fct (0 ≤ z7 ∧ z7 ≤ 3) <| calVM 2417851639229258349412352 V6 (f_m_byText (z7 + 1) 103 9 V6 J Rr) fun z8 V8 => fct (0 ≤ z8 ∧ z8 ≤ 999) <| rtn (z8, V8)
set_option maxHeartbeats 8000000 in
set_option maxRecDepth 100000 in
theorem m_cupsOf (l : Launch) (D : va_G) (cy : Nat → ClassId) (ad : Nat → Nat) (G : Nat → Nat → Int) (V J : Nat → Nat → Int) (Rr : Nat → Nat → Nat) {K : Nat → Nat → Int} (hI : AI K G V) (hJ : VJ J) (hR : MR Rr) (x1 : Int) (bx1 : 0 ≤ x1 ∧ x1 ≤ 7) (x2 : Int) (bx2 : 0 ≤ x2 ∧ x2 ≤ 3) (hW : WP G) : xMi l D (xTY cy) yX12_cupsOf cX12_cupsOf 3 (some .int) 3 74 0 0 [.ref (ad 0), vI x1, vI x2] (MW cy ad V J Rr) (fun u : Nat → Nat → Int => MW cy ad u J Rr) (fun a (u : Nat → Nat → Int) => AI K G u ∧ (0 ≤ a ∧ a ≤ 999) ∧ FBm 7253554917687775048237056 V u ∧ (f_m_cupsOf x1 x2 V J Rr) (a, u)) := by
  refine xMi.mk (lv0 := [(0, .ref (ad 0)), (1, vI x1), (2, vI x2)]) (by decide) rfl (Nat.le_of_ble_eq_true rfl) (fun p e s m below meth c A C hr hnm hAe => ?_)
  have C : xC2 p s m _ meth c D A s.heap 3 cX12_cupsOf RX12 (xTY cy) := C
  have hB : FBm 7253554917687775048237056 V V := FBm.rf _ _
  have hF := Imp.of_eq (f_m_cupsOf.eq_def x1 x2 V J Rr)
  refine x_aload_n C.1 dX12_cupsOf_0 0 rfl ?_
  refine x_iload_n C.1 dX12_cupsOf_1 2 rfl ?_
  refine x_callVv C (As := [vI x2]) (rest := []) 0 (xw_at (N := 33) (i := 0) (by decide) rfl) vc_X12 (m_feelsPlant l D cy ad G V J Rr (KI.self hI.1) hJ hR x2 ⟨by omega, by omega⟩) (l1 := []) (l2 := []) (List.append_nil _).symm (w2 := fun u : Nat → Nat → Int => MW cy ad u J Rr) (fun _ => List.append_nil _) rfl wm_yX12_feelsPlant wn_X12 wl_X12_253 wi_yX12_feelsPlant we_yX12_feelsPlant hd_yX12_feelsPlant rfl ⟨Nat.le_of_ble_eq_true rfl, Nat.le_of_ble_eq_true rfl⟩ (Nat.le_of_ble_eq_true rfl) ⟨Nat.le_of_ble_eq_true rfl, Nat.le_of_ble_eq_true rfl⟩ dX12_cupsOf_2 (fun V1 h1 => ?_)
  obtain ⟨hI1, hBc1, hFc1⟩ := h1
  replace hF := calUM_i hF hFc1 hBc1
  have hB1 := hB.tr hBc1 (m := 4835703278458516698824704) rfl
  have hI1c : AI K G V1 := KI.back hI1 hI sub_AA
  refine x_aload_n C.1 dX12_cupsOf_5 0 rfl ?_
  refine x_getA C (N := 33) (i := 0) (by decide) rfl vc_X12 wx_X12 26 (by decide) wf_X12_62 (a := 18) rfl dX12_cupsOf_6 ?_
  refine x_bipush C.1 (n := 8) dX12_cupsOf_9 ?_
  refine x_iload_n C.1 dX12_cupsOf_11 1 rfl ?_
  refine x_iast C (N := 33) (i := 18) (q := 8) (a := x1) (by decide) rfl (by decide) (by decide) dX12_cupsOf_12 ?_
  rw [show (8 : Int).toNat = 8 from rfl]
  refine x_gV ?_
  intro V2 hV2
  have hI2 : AI K G V2 := hI1c.up hV2 rfl (by omega) rfl (Or.inl (by decide))
  have hB2 := hB1.up hV2 (by rw [mkey_r (by decide)]; rfl)
  replace hF := hF.to (rdb_e (z := V2) hV2.symm)
  refine x_aload_n C.1 dX12_cupsOf_13 0 rfl ?_
  refine x_getA C (N := 33) (i := 0) (by decide) rfl vc_X12 wx_X12 26 (by decide) wf_X12_62 (a := 18) rfl dX12_cupsOf_14 ?_
  refine x_bipush C.1 (n := 9) dX12_cupsOf_17 ?_
  refine x_aload_n C.1 dX12_cupsOf_19 0 rfl ?_
  refine x_getA C (N := 33) (i := 0) (by decide) rfl vc_X12 wx_X12 0 (by decide) wf_X12_7 (a := 1) rfl dX12_cupsOf_20 ?_
  refine x_bipush C.1 (n := 52) dX12_cupsOf_23 ?_
  refine x_iload_n C.1 dX12_cupsOf_25 1 rfl ?_
  refine x_iadd C.1 (v := x1 + 52) (by omega) dX12_cupsOf_26 ?_
  obtain ⟨z3, ez3, bz3⟩ := hI2.rd 1 ((x1 + 52).toNat) (x := -2147483648) (y := 2147483647) (rgN_60 (Or.inl rfl) (by omega))
  replace hF := hF.to (rdb_e (z := z3) ez3)
  refine x_iald C (N := 33) (i := 1) (q := x1 + 52) (by decide) rfl (by omega) (by decide) dX12_cupsOf_27 (a := z3) ez3 ?_
  refine x_iast C (N := 33) (i := 18) (q := 9) (a := z3) (by decide) rfl (by decide) (by decide) dX12_cupsOf_28 ?_
  rw [show (9 : Int).toNat = 9 from rfl]
  refine x_gV ?_
  intro V4 hV4
  have hI4 : AI K G V4 := hI2.up hV4 rfl (by omega) rfl (Or.inl (by decide))
  have hB4 := hB2.up hV4 (by rw [mkey_r (by decide)]; rfl)
  replace hF := hF.to (rdb_e (z := V4) hV4.symm)
  refine x_aload_n C.1 dX12_cupsOf_29 0 rfl ?_
  refine x_getA C (N := 33) (i := 0) (by decide) rfl vc_X12 wx_X12 26 (by decide) wf_X12_62 (a := 18) rfl dX12_cupsOf_30 ?_
  refine x_bipush C.1 (n := 12) dX12_cupsOf_33 ?_
  refine x_aload_n C.1 dX12_cupsOf_35 0 rfl ?_
  refine x_getA C (N := 33) (i := 0) (by decide) rfl vc_X12 wx_X12 0 (by decide) wf_X12_7 (a := 1) rfl dX12_cupsOf_36 ?_
  refine x_bipush C.1 (n := 68) dX12_cupsOf_39 ?_
  refine x_iload_n C.1 dX12_cupsOf_41 1 rfl ?_
  refine x_iadd C.1 (v := x1 + 68) (by omega) dX12_cupsOf_42 ?_
  obtain ⟨z5, ez5, bz5⟩ := hI4.rd 1 ((x1 + 68).toNat) (x := -2147483648) (y := 2147483647) (rgN_81 (Or.inl rfl) (by omega))
  replace hF := hF.to (rdb_e (z := z5) ez5)
  refine x_iald C (N := 33) (i := 1) (q := x1 + 68) (by decide) rfl (by omega) (by decide) dX12_cupsOf_43 (a := z5) ez5 ?_
  refine x_iast C (N := 33) (i := 18) (q := 12) (a := z5) (by decide) rfl (by decide) (by decide) dX12_cupsOf_44 ?_
  rw [show (12 : Int).toNat = 12 from rfl]
  refine x_gV ?_
  intro V6 hV6
  have hI6 : AI K G V6 := hI4.up hV6 rfl (by omega) rfl (Or.inl (by decide))
  have hB6 := hB4.up hV6 (by rw [mkey_r (by decide)]; rfl)
  replace hF := hF.to (rdb_e (z := V6) hV6.symm)
  refine x_aload_n C.1 dX12_cupsOf_45 0 rfl ?_
  refine x_aload_n C.1 dX12_cupsOf_46 0 rfl ?_
  refine x_getA C (N := 33) (i := 0) (by decide) rfl vc_X12 wx_X12 0 (by decide) wf_X12_7 (a := 1) rfl dX12_cupsOf_47 ?_
  refine x_bipush C.1 (n := 60) dX12_cupsOf_50 ?_
  refine x_iload_n C.1 dX12_cupsOf_52 1 rfl ?_
  refine x_iadd C.1 (v := x1 + 60) (by omega) dX12_cupsOf_53 ?_
  obtain ⟨z7, ez7, bz7⟩ := hI6.rd 1 ((x1 + 60).toNat) (x := 0) (y := 3) (rgN_68 (Or.inl rfl) (by omega))
  replace hF := hF.to (rdb_e (z := z7) ez7)
  replace hF := hF.fc bz7
  refine x_iald C (N := 33) (i := 1) (q := x1 + 60) (by decide) rfl (by omega) (by decide) dX12_cupsOf_54 (a := z7) ez7 ?_
  refine x_iconst C.1 (n := 1) dX12_cupsOf_55 ?_
  refine x_iadd C.1 (v := z7 + 1) (by omega) dX12_cupsOf_56 ?_
  refine x_bipush C.1 (n := 103) dX12_cupsOf_57 ?_
  refine x_bipush C.1 (n := 9) dX12_cupsOf_59 ?_
  refine x_callVi C (As := [vI (z7 + 1), vI 103, vI 9]) (rest := []) 0 (xw_at (N := 33) (i := 0) (by decide) rfl) vc_X12 (m_byText l D cy ad G V6 J Rr (KI.self hI6.1) hJ hR (z7 + 1) ⟨by omega, by omega⟩ 103 ⟨by decide, by decide⟩ 9 ⟨by decide, by decide⟩ hW) (l1 := []) (l2 := []) (List.append_nil _).symm (w2 := fun u : Nat → Nat → Int => MW cy ad u J Rr) (fun _ => List.append_nil _) rfl wm_yX12_byText wn_X12 wl_X12_256 wi_yX12_byText we_yX12_byText hd_yX12_byText rfl ⟨Nat.le_of_ble_eq_true rfl, Nat.le_of_ble_eq_true rfl⟩ (Nat.le_of_ble_eq_true rfl) ⟨Nat.le_of_ble_eq_true rfl, Nat.le_of_ble_eq_true rfl⟩ dX12_cupsOf_61 (fun z8 V8 bz8 h8 => ?_)
  obtain ⟨hI8, bq8, hBc8, hFc8⟩ := h8
  replace hF := calVM_i hF hFc8 hBc8
  replace hF := hF.fc bq8
  have hB8 := hB6.tr hBc8 (m := 2417851639229258349412352) rfl
  have hI8c : AI K G V8 := KI.back hI8 hI6 sub_AA
  exact x_iret (S := (Nat → Nat → Int)) (post := (fun a (u : Nat → Nat → Int) => AI K G u ∧ (0 ≤ a ∧ a ≤ 999) ∧ FBm 7253554917687775048237056 V u ∧ (f_m_cupsOf x1 x2 V J Rr) (a, u))) (w1 := (fun u : Nat → Nat → Int => MW cy ad u J Rr)) (a := z8) C hr rfl dX12_cupsOf_64 (by omega) V8 rfl ⟨hI8c, ⟨by omega, by omega⟩, hB8, hF _ rfl⟩
theorem hd_yX12_cupsOf : yX12_cupsOf.cls ≠ "java/lang/invoke/MethodHandle" ∧ yX12_cupsOf.cls ≠ "java/lang/invoke/VarHandle" ∧ (parseMethodDescriptor yX12_cupsOf.desc).map (fun d => d.parameters.length) = some 2 := by decide +kernel
theorem dX12_gives_0 : decode cX12_gives 0 = .ok (.aload_n 0, 1) := by decide +kernel
theorem dX12_gives_1 : decode cX12_gives 1 = .ok (.iload_n 1, 1) := by decide +kernel
theorem dX12_gives_2 : decode cX12_gives 2 = .ok (.invokevirtual 259, 3) := by decide +kernel
theorem dX12_gives_5 : decode cX12_gives 5 = .ok (.ifCond .eq 11, 3) := by decide +kernel
theorem dX12_gives_8 : decode cX12_gives 8 = .ok (.aload_n 0, 1) := by decide +kernel
theorem dX12_gives_9 : decode cX12_gives 9 = .ok (.iload_n 2, 1) := by decide +kernel
theorem dX12_gives_10 : decode cX12_gives 10 = .ok (.invokevirtual 122, 3) := by decide +kernel
theorem dX12_gives_13 : decode cX12_gives 13 = .ok (.ifCond .ne 5, 3) := by decide +kernel
theorem dX12_gives_16 : decode cX12_gives 16 = .ok (.iconst (-1), 1) := by decide +kernel
theorem dX12_gives_17 : decode cX12_gives 17 = .ok (.ireturn, 1) := by decide +kernel
theorem dX12_gives_18 : decode cX12_gives 18 = .ok (.aload_n 0, 1) := by decide +kernel
theorem dX12_gives_19 : decode cX12_gives 19 = .ok (.iload_n 2, 1) := by decide +kernel
theorem dX12_gives_20 : decode cX12_gives 20 = .ok (.invokevirtual 130, 3) := by decide +kernel
theorem dX12_gives_23 : decode cX12_gives 23 = .ok (.ifCond .eq 12, 3) := by decide +kernel
theorem dX12_gives_26 : decode cX12_gives 26 = .ok (.aload_n 0, 1) := by decide +kernel
theorem dX12_gives_27 : decode cX12_gives 27 = .ok (.iload_n 1, 1) := by decide +kernel
theorem dX12_gives_28 : decode cX12_gives 28 = .ok (.iload_n 2, 1) := by decide +kernel
theorem dX12_gives_29 : decode cX12_gives 29 = .ok (.invokevirtual 262, 3) := by decide +kernel
theorem dX12_gives_32 : decode cX12_gives 32 = .ok (.goto 4, 3) := by decide +kernel
theorem dX12_gives_35 : decode cX12_gives 35 = .ok (.iconst 0, 1) := by decide +kernel
theorem dX12_gives_36 : decode cX12_gives 36 = .ok (.ireturn, 1) := by decide +kernel
set_option maxRecDepth 100000 in
def f_m_gives (x1 : Int) (x2 : Int) (V : Nat → Nat → Int) (J : Nat → Nat → Int) (Rr : Nat → Nat → Nat) : (Int × (Nat → Nat → Int)) → Prop :=
  calR (f_m_isPerson x1 V J Rr) fun z1 => fct (0 ≤ z1 ∧ z1 ≤ 1) <| (if z1 = 0 then rtn ((-1), V) else calR (f_m_isPlant x2 V J Rr) fun z4 => fct (0 ≤ z4 ∧ z4 ≤ 1) <| (if ¬ z4 = 0 then calR (f_m_lives x2 V J Rr) fun z7 => fct (0 ≤ z7 ∧ z7 ≤ 1) <| (if z7 = 0 then rtn (0, V) else rdb (V 1 ((x2 + 12).toNat)) fun z10 => fct (0 ≤ z10 ∧ z10 ≤ 8) <| rdb (V 1 ((x2 + 16).toNat)) fun z11 => fct (0 ≤ z11 ∧ z11 ≤ 8) <| calVM 7253554917687775048237056 V (f_m_cupsOf x1 x2 V J Rr) fun z12 V12 => fct (0 ≤ z12 ∧ z12 ≤ 999) <| rtn (z12, V12)) else rtn ((-1), V)))
set_option maxHeartbeats 8000000 in
set_option maxRecDepth 100000 in
theorem m_gives (l : Launch) (D : va_G) (cy : Nat → ClassId) (ad : Nat → Nat) (G : Nat → Nat → Int) (V J : Nat → Nat → Int) (Rr : Nat → Nat → Nat) (hI : MI G V) (hJ : VJ J) (hR : MR Rr) (x1 : Int) (bx1 : -2147483648 ≤ x1 ∧ x1 ≤ 2147483647) (x2 : Int) (bx2 : -2147483648 ≤ x2 ∧ x2 ≤ 2147483647) (hW : WP G) : xMi l D (xTY cy) yX12_gives cX12_gives 3 (some .int) 4 96 0 0 [.ref (ad 0), vI x1, vI x2] (MW cy ad V J Rr) (fun u : Nat → Nat → Int => MW cy ad u J Rr) (fun a (u : Nat → Nat → Int) => MI G u ∧ FBm 7253554917687775048237056 V u ∧ (f_m_gives x1 x2 V J Rr) (a, u)) := by
  refine xMi.mk (lv0 := [(0, .ref (ad 0)), (1, vI x1), (2, vI x2)]) (by decide) rfl (Nat.le_of_ble_eq_true rfl) (fun p e s m below meth c A C hr hnm hAe => ?_)
  have C : xC2 p s m _ meth c D A s.heap 3 cX12_gives RX12 (xTY cy) := C
  have hB : FBm 7253554917687775048237056 V V := FBm.rf _ _
  have hF := Imp.of_eq (f_m_gives.eq_def x1 x2 V J Rr)
  refine x_aload_n C.1 dX12_gives_0 0 rfl ?_
  refine x_iload_n C.1 dX12_gives_1 1 rfl ?_
  refine x_callVi C (As := [vI x1]) (rest := []) 0 (xw_at (N := 33) (i := 0) (by decide) rfl) vc_X12 (m_isPerson l D cy ad G V J Rr hI hJ hR x1 ⟨by omega, by omega⟩) (l1 := []) (l2 := []) (List.append_nil _).symm (w2 := fun _ => MW cy ad V J Rr) (fun _ => List.append_nil _) rfl wm_yX12_isPerson wn_X12 wl_X12_259 wi_yX12_isPerson we_yX12_isPerson hd_yX12_isPerson rfl ⟨Nat.le_of_ble_eq_true rfl, Nat.le_of_ble_eq_true rfl⟩ (Nat.le_of_ble_eq_true rfl) ⟨Nat.le_of_ble_eq_true rfl, Nat.le_of_ble_eq_true rfl⟩ dX12_gives_2 (fun z1 u1 bz1 h1 => ?_)
  obtain ⟨hon1, hFc1⟩ := h1
  replace hF := calR_i hF hFc1
  replace hF := hF.fc hon1.r
  have bq1 := Sp.r hon1
  refine x_if_eq C.1 (tgt := 16) dX12_gives_5 (by decide) (by omega) (fun hc2 => ?_) (fun hc2 => ?_)
  · replace hF := hF.to (if_pos hc2)
    refine x_iconst C.1 (n := -1) dX12_gives_16 ?_
    exact x_iret (S := (Nat → Nat → Int)) (post := (fun a (u : Nat → Nat → Int) => MI G u ∧ FBm 7253554917687775048237056 V u ∧ (f_m_gives x1 x2 V J Rr) (a, u))) (w1 := (fun u : Nat → Nat → Int => MW cy ad u J Rr)) (a := (-1)) C hr rfl dX12_gives_17 (by decide) V rfl ⟨hI, hB, hF _ rfl⟩
  · replace hF := hF.to (if_neg hc2)
    have hon3 := Sp.on hon1 (by omega)
    refine x_aload_n C.1 dX12_gives_8 0 rfl ?_
    refine x_iload_n C.1 dX12_gives_9 2 rfl ?_
    refine x_callVi C (As := [vI x2]) (rest := []) 0 (xw_at (N := 33) (i := 0) (by decide) rfl) vc_X12 (m_isPlant l D cy ad G V J Rr hI hJ hR x2 ⟨by omega, by omega⟩) (l1 := []) (l2 := []) (List.append_nil _).symm (w2 := fun _ => MW cy ad V J Rr) (fun _ => List.append_nil _) rfl wm_yX12_isPlant wn_X12 wl_X12_122 wi_yX12_isPlant we_yX12_isPlant hd_yX12_isPlant rfl ⟨Nat.le_of_ble_eq_true rfl, Nat.le_of_ble_eq_true rfl⟩ (Nat.le_of_ble_eq_true rfl) ⟨Nat.le_of_ble_eq_true rfl, Nat.le_of_ble_eq_true rfl⟩ dX12_gives_10 (fun z4 u4 bz4 h4 => ?_)
    obtain ⟨hon4, hFc4⟩ := h4
    replace hF := calR_i hF hFc4
    replace hF := hF.fc hon4.r
    have bq4 := Sp.r hon4
    refine x_if_ne C.1 (tgt := 18) dX12_gives_13 (by decide) (by omega) (fun hc5 => ?_) (fun hc5 => ?_)
    · replace hF := hF.to (if_pos hc5)
      have hon6 := Sp.on hon4 (by omega)
      refine x_aload_n C.1 dX12_gives_18 0 rfl ?_
      refine x_iload_n C.1 dX12_gives_19 2 rfl ?_
      refine x_callVi C (As := [vI x2]) (rest := []) 0 (xw_at (N := 33) (i := 0) (by decide) rfl) vc_X12 (m_lives l D cy ad G V J Rr hI hJ hR x2 ⟨by omega, by omega⟩) (l1 := []) (l2 := []) (List.append_nil _).symm (w2 := fun _ => MW cy ad V J Rr) (fun _ => List.append_nil _) rfl wm_yX12_lives wn_X12 wl_X12_130 wi_yX12_lives we_yX12_lives hd_yX12_lives rfl ⟨Nat.le_of_ble_eq_true rfl, Nat.le_of_ble_eq_true rfl⟩ (Nat.le_of_ble_eq_true rfl) ⟨Nat.le_of_ble_eq_true rfl, Nat.le_of_ble_eq_true rfl⟩ dX12_gives_20 (fun z7 u7 bz7 h7 => ?_)
      obtain ⟨bq7, hx7_0, hFc7⟩ := h7
      replace hF := calR_i hF hFc7
      replace hF := hF.fc bq7
      refine x_if_eq C.1 (tgt := 35) dX12_gives_23 (by decide) (by omega) (fun hc8 => ?_) (fun hc8 => ?_)
      · replace hF := hF.to (if_pos hc8)
        refine x_iconst C.1 (n := 0) dX12_gives_35 ?_
        exact x_iret (S := (Nat → Nat → Int)) (post := (fun a (u : Nat → Nat → Int) => MI G u ∧ FBm 7253554917687775048237056 V u ∧ (f_m_gives x1 x2 V J Rr) (a, u))) (w1 := (fun u : Nat → Nat → Int => MW cy ad u J Rr)) (a := 0) C hr rfl dX12_gives_36 (by decide) V rfl ⟨hI, hB, hF _ rfl⟩
      · replace hF := hF.to (if_neg hc8)
        have hon9 := Sp.on hx7_0 (by omega)
        obtain ⟨z10, ez10, bz10⟩ := hI.rd 1 ((x2 + 12).toNat) (x := 0) (y := 9) (rgN_20 (Or.inl rfl) (by omega))
        have by10 : z10 ≤ 8 := by rw [← ez10, show (x2 + 12).toNat = 12 + x2.toNat by omega]; exact hon9.2.1
        replace hF := hF.to (rdb_e (z := z10) ez10)
        replace hF := hF.fc ⟨bz10.1, by10⟩
        obtain ⟨z11, ez11, bz11⟩ := hI.rd 1 ((x2 + 16).toNat) (x := 0) (y := 9) (rgN_20 (Or.inl rfl) (by omega))
        have by11 : z11 ≤ 8 := by rw [← ez11, show (x2 + 16).toNat = 16 + x2.toNat by omega]; exact hon9.2.2
        replace hF := hF.to (rdb_e (z := z11) ez11)
        replace hF := hF.fc ⟨bz11.1, by11⟩
        refine x_aload_n C.1 dX12_gives_26 0 rfl ?_
        refine x_iload_n C.1 dX12_gives_27 1 rfl ?_
        refine x_iload_n C.1 dX12_gives_28 2 rfl ?_
        refine x_callVi C (As := [vI x1, vI x2]) (rest := []) 0 (xw_at (N := 33) (i := 0) (by decide) rfl) vc_X12 (m_cupsOf l D cy ad G V J Rr (KI.self hI) hJ hR x1 ⟨by omega, by omega⟩ x2 ⟨by omega, by omega⟩ hW) (l1 := []) (l2 := []) (List.append_nil _).symm (w2 := fun u : Nat → Nat → Int => MW cy ad u J Rr) (fun _ => List.append_nil _) rfl wm_yX12_cupsOf wn_X12 wl_X12_262 wi_yX12_cupsOf we_yX12_cupsOf hd_yX12_cupsOf rfl ⟨Nat.le_of_ble_eq_true rfl, Nat.le_of_ble_eq_true rfl⟩ (Nat.le_of_ble_eq_true rfl) ⟨Nat.le_of_ble_eq_true rfl, Nat.le_of_ble_eq_true rfl⟩ dX12_gives_29 (fun z12 V12 bz12 h12 => ?_)
        obtain ⟨hI12, bq12, hBc12, hFc12⟩ := h12
        replace hF := calVM_i hF hFc12 hBc12
        replace hF := hF.fc bq12
        have hB12 := hB.tr hBc12 (m := 7253554917687775048237056) rfl
        have hI12c := hI12.1
        refine x_goto C.1 (tgt := 36) dX12_gives_32 (by decide) ?_
        exact x_iret (S := (Nat → Nat → Int)) (post := (fun a (u : Nat → Nat → Int) => MI G u ∧ FBm 7253554917687775048237056 V u ∧ (f_m_gives x1 x2 V J Rr) (a, u))) (w1 := (fun u : Nat → Nat → Int => MW cy ad u J Rr)) (a := z12) C hr rfl dX12_gives_36 (by omega) V12 rfl ⟨hI12c, hB12, hF _ rfl⟩
    · replace hF := hF.to (if_neg (fun hh => hh hc5))
      refine x_iconst C.1 (n := -1) dX12_gives_16 ?_
      exact x_iret (S := (Nat → Nat → Int)) (post := (fun a (u : Nat → Nat → Int) => MI G u ∧ FBm 7253554917687775048237056 V u ∧ (f_m_gives x1 x2 V J Rr) (a, u))) (w1 := (fun u : Nat → Nat → Int => MW cy ad u J Rr)) (a := (-1)) C hr rfl dX12_gives_17 (by decide) V rfl ⟨hI, hB, hF _ rfl⟩
theorem dX12_waters_0 : decode cX12_waters 0 = .ok (.aload_n 0, 1) := by decide +kernel
theorem dX12_waters_1 : decode cX12_waters 1 = .ok (.iload_n 1, 1) := by decide +kernel
theorem dX12_waters_2 : decode cX12_waters 2 = .ok (.iload_n 2, 1) := by decide +kernel
theorem dX12_waters_3 : decode cX12_waters 3 = .ok (.invokevirtual 262, 3) := by decide +kernel
theorem dX12_waters_6 : decode cX12_waters 6 = .ok (.istore_n 3, 1) := by decide +kernel
theorem dX12_waters_7 : decode cX12_waters 7 = .ok (.aload_n 0, 1) := by decide +kernel
theorem dX12_waters_8 : decode cX12_waters 8 = .ok (.getfield 7, 3) := by decide +kernel
theorem dX12_waters_11 : decode cX12_waters 11 = .ok (.iconst 4, 1) := by decide +kernel
theorem dX12_waters_12 : decode cX12_waters 12 = .ok (.iload_n 2, 1) := by decide +kernel
theorem dX12_waters_13 : decode cX12_waters 13 = .ok (.iadd, 1) := by decide +kernel
theorem dX12_waters_14 : decode cX12_waters 14 = .ok (.iaload, 1) := by decide +kernel
theorem dX12_waters_15 : decode cX12_waters 15 = .ok (.iload_n 3, 1) := by decide +kernel
theorem dX12_waters_16 : decode cX12_waters 16 = .ok (.iadd, 1) := by decide +kernel
theorem dX12_waters_17 : decode cX12_waters 17 = .ok (.istore 4, 2) := by decide +kernel
theorem dX12_waters_19 : decode cX12_waters 19 = .ok (.aload_n 0, 1) := by decide +kernel
theorem dX12_waters_20 : decode cX12_waters 20 = .ok (.getfield 7, 3) := by decide +kernel
theorem dX12_waters_23 : decode cX12_waters 23 = .ok (.iconst 4, 1) := by decide +kernel
theorem dX12_waters_24 : decode cX12_waters 24 = .ok (.iload_n 2, 1) := by decide +kernel
theorem dX12_waters_25 : decode cX12_waters 25 = .ok (.iadd, 1) := by decide +kernel
theorem dX12_waters_26 : decode cX12_waters 26 = .ok (.aload_n 0, 1) := by decide +kernel
theorem dX12_waters_27 : decode cX12_waters 27 = .ok (.getfield 7, 3) := by decide +kernel
theorem dX12_waters_30 : decode cX12_waters 30 = .ok (.iconst 0, 1) := by decide +kernel
theorem dX12_waters_31 : decode cX12_waters 31 = .ok (.iload_n 2, 1) := by decide +kernel
theorem dX12_waters_32 : decode cX12_waters 32 = .ok (.iadd, 1) := by decide +kernel
theorem dX12_waters_33 : decode cX12_waters 33 = .ok (.iaload, 1) := by decide +kernel
theorem dX12_waters_34 : decode cX12_waters 34 = .ok (.iload 4, 2) := by decide +kernel
theorem dX12_waters_36 : decode cX12_waters 36 = .ok (.invokestatic 133, 3) := by decide +kernel
theorem dX12_waters_39 : decode cX12_waters 39 = .ok (.iastore, 1) := by decide +kernel
theorem dX12_waters_40 : decode cX12_waters 40 = .ok (.aload_n 0, 1) := by decide +kernel
theorem dX12_waters_41 : decode cX12_waters 41 = .ok (.getfield 7, 3) := by decide +kernel
theorem dX12_waters_44 : decode cX12_waters 44 = .ok (.bipush 68, 2) := by decide +kernel
theorem dX12_waters_46 : decode cX12_waters 46 = .ok (.iload_n 1, 1) := by decide +kernel
theorem dX12_waters_47 : decode cX12_waters 47 = .ok (.iadd, 1) := by decide +kernel
theorem dX12_waters_48 : decode cX12_waters 48 = .ok (.aload_n 0, 1) := by decide +kernel
theorem dX12_waters_49 : decode cX12_waters 49 = .ok (.getfield 7, 3) := by decide +kernel
theorem dX12_waters_52 : decode cX12_waters 52 = .ok (.bipush 68, 2) := by decide +kernel
theorem dX12_waters_54 : decode cX12_waters 54 = .ok (.iload_n 1, 1) := by decide +kernel
theorem dX12_waters_55 : decode cX12_waters 55 = .ok (.iadd, 1) := by decide +kernel
theorem dX12_waters_56 : decode cX12_waters 56 = .ok (.iaload, 1) := by decide +kernel
theorem dX12_waters_57 : decode cX12_waters 57 = .ok (.iload_n 3, 1) := by decide +kernel
theorem dX12_waters_58 : decode cX12_waters 58 = .ok (.iadd, 1) := by decide +kernel
theorem dX12_waters_59 : decode cX12_waters 59 = .ok (.iastore, 1) := by decide +kernel
theorem dX12_waters_60 : decode cX12_waters 60 = .ok (.aload_n 0, 1) := by decide +kernel
theorem dX12_waters_61 : decode cX12_waters 61 = .ok (.aload_n 0, 1) := by decide +kernel
theorem dX12_waters_62 : decode cX12_waters 62 = .ok (.getfield 266, 3) := by decide +kernel
theorem dX12_waters_65 : decode cX12_waters 65 = .ok (.iload_n 3, 1) := by decide +kernel
theorem dX12_waters_66 : decode cX12_waters 66 = .ok (.iadd, 1) := by decide +kernel
theorem dX12_waters_67 : decode cX12_waters 67 = .ok (.putfield 266, 3) := by decide +kernel
theorem dX12_waters_70 : decode cX12_waters 70 = .ok (.aload_n 0, 1) := by decide +kernel
theorem dX12_waters_71 : decode cX12_waters 71 = .ok (.aload_n 0, 1) := by decide +kernel
theorem dX12_waters_72 : decode cX12_waters 72 = .ok (.getfield 269, 3) := by decide +kernel
theorem dX12_waters_75 : decode cX12_waters 75 = .ok (.iload 4, 2) := by decide +kernel
theorem dX12_waters_77 : decode cX12_waters 77 = .ok (.iadd, 1) := by decide +kernel
theorem dX12_waters_78 : decode cX12_waters 78 = .ok (.aload_n 0, 1) := by decide +kernel
theorem dX12_waters_79 : decode cX12_waters 79 = .ok (.getfield 7, 3) := by decide +kernel
theorem dX12_waters_82 : decode cX12_waters 82 = .ok (.iconst 4, 1) := by decide +kernel
theorem dX12_waters_83 : decode cX12_waters 83 = .ok (.iload_n 2, 1) := by decide +kernel
theorem dX12_waters_84 : decode cX12_waters 84 = .ok (.iadd, 1) := by decide +kernel
theorem dX12_waters_85 : decode cX12_waters 85 = .ok (.iaload, 1) := by decide +kernel
theorem dX12_waters_86 : decode cX12_waters 86 = .ok (.isub, 1) := by decide +kernel
theorem dX12_waters_87 : decode cX12_waters 87 = .ok (.putfield 269, 3) := by decide +kernel
theorem dX12_waters_90 : decode cX12_waters 90 = .ok (.aload_n 0, 1) := by decide +kernel
theorem dX12_waters_91 : decode cX12_waters 91 = .ok (.getfield 65, 3) := by decide +kernel
theorem dX12_waters_94 : decode cX12_waters 94 = .ok (.iload_n 1, 1) := by decide +kernel
theorem dX12_waters_95 : decode cX12_waters 95 = .ok (.aload_n 0, 1) := by decide +kernel
theorem dX12_waters_96 : decode cX12_waters 96 = .ok (.getfield 65, 3) := by decide +kernel
theorem dX12_waters_99 : decode cX12_waters 99 = .ok (.iload_n 1, 1) := by decide +kernel
theorem dX12_waters_100 : decode cX12_waters 100 = .ok (.iaload, 1) := by decide +kernel
theorem dX12_waters_101 : decode cX12_waters 101 = .ok (.iload_n 3, 1) := by decide +kernel
theorem dX12_waters_102 : decode cX12_waters 102 = .ok (.iadd, 1) := by decide +kernel
theorem dX12_waters_103 : decode cX12_waters 103 = .ok (.iastore, 1) := by decide +kernel
theorem dX12_waters_104 : decode cX12_waters 104 = .ok (.iload_n 3, 1) := by decide +kernel
theorem dX12_waters_105 : decode cX12_waters 105 = .ok (.ifCond .le 33, 3) := by decide +kernel
theorem dX12_waters_108 : decode cX12_waters 108 = .ok (.aload_n 0, 1) := by decide +kernel
theorem dX12_waters_109 : decode cX12_waters 109 = .ok (.getfield 7, 3) := by decide +kernel
theorem dX12_waters_112 : decode cX12_waters 112 = .ok (.bipush 20, 2) := by decide +kernel
theorem dX12_waters_114 : decode cX12_waters 114 = .ok (.iload_n 2, 1) := by decide +kernel
theorem dX12_waters_115 : decode cX12_waters 115 = .ok (.iadd, 1) := by decide +kernel
theorem dX12_waters_116 : decode cX12_waters 116 = .ok (.iaload, 1) := by decide +kernel
theorem dX12_waters_117 : decode cX12_waters 117 = .ok (.bipush (-2), 2) := by decide +kernel
theorem dX12_waters_119 : decode cX12_waters 119 = .ok (.if_icmp .eq 19, 3) := by decide +kernel
theorem dX12_waters_122 : decode cX12_waters 122 = .ok (.aload_n 0, 1) := by decide +kernel
theorem dX12_waters_123 : decode cX12_waters 123 = .ok (.getfield 7, 3) := by decide +kernel
theorem dX12_waters_126 : decode cX12_waters 126 = .ok (.bipush 20, 2) := by decide +kernel
theorem dX12_waters_128 : decode cX12_waters 128 = .ok (.iload_n 2, 1) := by decide +kernel
theorem dX12_waters_129 : decode cX12_waters 129 = .ok (.iadd, 1) := by decide +kernel
theorem dX12_waters_130 : decode cX12_waters 130 = .ok (.aload_n 0, 1) := by decide +kernel
theorem dX12_waters_131 : decode cX12_waters 131 = .ok (.getfield 7, 3) := by decide +kernel
theorem dX12_waters_134 : decode cX12_waters 134 = .ok (.bipush 79, 2) := by decide +kernel
theorem dX12_waters_136 : decode cX12_waters 136 = .ok (.iaload, 1) := by decide +kernel
theorem dX12_waters_137 : decode cX12_waters 137 = .ok (.iastore, 1) := by decide +kernel
theorem dX12_waters_138 : decode cX12_waters 138 = .ok (.return_, 1) := by decide +kernel
set_option maxRecDepth 100000 in
def f_m_waters (x1 : Int) (x2 : Int) (V : Nat → Nat → Int) (J : Nat → Nat → Int) (Rr : Nat → Nat → Nat) : (Nat → Nat → Int) → Prop :=
  calVM 7253554917687775048237056 V (f_m_cupsOf x1 x2 V J Rr) fun z1 V1 => fct (0 ≤ z1 ∧ z1 ≤ 999) <| rdb (V1 1 ((x2 + 4).toNat)) fun z2 => fct (0 ≤ z2 ∧ z2 ≤ 24) <| rdb (V1 1 x2.toNat) fun z3 => fct (0 ≤ z3 ∧ z3 ≤ 24) <| calR (f_m_min z3 (z2 + z1)) fun z4 => rdb (up2 V1 1 ((x2 + 4).toNat) z4) fun V6 => rdb (V6 1 ((x1 + 68).toNat)) fun z7 => rdb (wr (z7 + z1)) fun z8 => rdb (up2 V6 1 ((x1 + 68).toNat) z8) fun V9 => rdb (V9 0 27) fun z10 => rdb (wr (z10 + z1)) fun z11 => rdb (up2 V9 0 27 z11) fun V12 => rdb (V12 0 28) fun z13 => rdb (wr (z13 + z2 + z1)) fun z14 => rdb (wr (z14 - z4)) fun z15 => rdb (up2 V12 0 28 z15) fun V16 => rdb (V16 19 x1.toNat) fun z17 => rdb (wr (z17 + z1)) fun z18 => rdb (up2 V16 19 x1.toNat z18) fun V19 => (if z1 ≤ 0 then rtn V19 else rdb (V19 1 ((x2 + 20).toNat)) fun z21 => (if z21 = (-2) then rtn V19 else rdb (V19 1 79) fun z23 => rdb (up2 V19 1 ((x2 + 20).toNat) z23) fun V24 => rtn V24))
set_option maxHeartbeats 8000000 in
set_option maxRecDepth 100000 in
theorem m_waters (l : Launch) (D : va_G) (cy : Nat → ClassId) (ad : Nat → Nat) (G : Nat → Nat → Int) (V J : Nat → Nat → Int) (Rr : Nat → Nat → Nat) {K : Nat → Nat → Int} (hI : WI K G V) (hJ : VJ J) (hR : MR Rr) (x1 : Int) (bx1 : 0 ≤ x1 ∧ x1 ≤ 7) (x2 : Int) (bx2 : 0 ≤ x2 ∧ x2 ≤ 3) (hW : WP G) : xMv l D (xTY cy) yX12_waters cX12_waters 5 none 4 96 0 0 [.ref (ad 0), vI x1, vI x2] (MW cy ad V J Rr) (fun u : Nat → Nat → Int => MW cy ad u J Rr) (fun u : Nat → Nat → Int => WI K G u ∧ FBm 16924998368092956267642880 V u ∧ (f_m_waters x1 x2 V J Rr) u) := by
  refine xMv.mk (lv0 := [(0, .ref (ad 0)), (1, vI x1), (2, vI x2)]) (by decide) rfl (Nat.le_of_ble_eq_true rfl) (fun p e s m below meth c A C hr hnm hAe => ?_)
  have C : xC2 p s m _ meth c D A s.heap 5 cX12_waters RX12 (xTY cy) := C
  have hB : FBm 16924998368092956267642880 V V := FBm.rf _ _
  have hF := Imp.of_eq (f_m_waters.eq_def x1 x2 V J Rr)
  refine x_aload_n C.1 dX12_waters_0 0 rfl ?_
  refine x_iload_n C.1 dX12_waters_1 1 rfl ?_
  refine x_iload_n C.1 dX12_waters_2 2 rfl ?_
  refine x_callVi C (As := [vI x1, vI x2]) (rest := []) 0 (xw_at (N := 33) (i := 0) (by decide) rfl) vc_X12 (m_cupsOf l D cy ad G V J Rr (KI.self hI.1) hJ hR x1 ⟨by omega, by omega⟩ x2 ⟨by omega, by omega⟩ hW) (l1 := []) (l2 := []) (List.append_nil _).symm (w2 := fun u : Nat → Nat → Int => MW cy ad u J Rr) (fun _ => List.append_nil _) rfl wm_yX12_cupsOf wn_X12 wl_X12_262 wi_yX12_cupsOf we_yX12_cupsOf hd_yX12_cupsOf rfl ⟨Nat.le_of_ble_eq_true rfl, Nat.le_of_ble_eq_true rfl⟩ (Nat.le_of_ble_eq_true rfl) ⟨Nat.le_of_ble_eq_true rfl, Nat.le_of_ble_eq_true rfl⟩ dX12_waters_3 (fun z1 V1 bz1 h1 => ?_)
  obtain ⟨hI1, bq1, hBc1, hFc1⟩ := h1
  replace hF := calVM_i hF hFc1 hBc1
  replace hF := hF.fc bq1
  have hB1 := hB.tr hBc1 (m := 7253554917687775048237056) rfl
  have hI1c : WI K G V1 := KI.back hI1 hI sub_WA
  refine x_istore_n C.1 (lv' := [(3, vI z1), (0, .ref (ad 0)), (1, vI x1), (2, vI x2)]) dX12_waters_6 (by decide) rfl ?_
  refine x_aload_n C.1 dX12_waters_7 1 rfl ?_
  refine x_getA C (N := 33) (i := 0) (by decide) rfl vc_X12 wx_X12 0 (by decide) wf_X12_7 (a := 1) rfl dX12_waters_8 ?_
  refine x_iconst C.1 (n := 4) dX12_waters_11 ?_
  refine x_iload_n C.1 dX12_waters_12 3 rfl ?_
  refine x_iadd C.1 (v := x2 + 4) (by omega) dX12_waters_13 ?_
  obtain ⟨z2, ez2, bz2⟩ := hI1c.rd 1 ((x2 + 4).toNat) (x := 0) (y := 24) (rgN_8 (Or.inl rfl) (by omega))
  replace hF := hF.to (rdb_e (z := z2) ez2)
  replace hF := hF.fc bz2
  refine x_iald C (N := 33) (i := 1) (q := x2 + 4) (by decide) rfl (by omega) (by decide) dX12_waters_14 (a := z2) ez2 ?_
  refine x_iload_n C.1 dX12_waters_15 0 rfl ?_
  refine x_iadd C.1 (v := z2 + z1) (by omega) dX12_waters_16 ?_
  refine x_istore C.1 (lv' := [(4, vI (z2 + z1)), (3, vI z1), (0, .ref (ad 0)), (1, vI x1), (2, vI x2)]) dX12_waters_17 (by decide) rfl ?_
  refine x_aload_n C.1 dX12_waters_19 2 rfl ?_
  refine x_getA C (N := 33) (i := 0) (by decide) rfl vc_X12 wx_X12 0 (by decide) wf_X12_7 (a := 1) rfl dX12_waters_20 ?_
  refine x_iconst C.1 (n := 4) dX12_waters_23 ?_
  refine x_iload_n C.1 dX12_waters_24 4 rfl ?_
  refine x_iadd C.1 (v := x2 + 4) (by omega) dX12_waters_25 ?_
  refine x_aload_n C.1 dX12_waters_26 2 rfl ?_
  refine x_getA C (N := 33) (i := 0) (by decide) rfl vc_X12 wx_X12 0 (by decide) wf_X12_7 (a := 1) rfl dX12_waters_27 ?_
  refine x_iconst C.1 (n := 0) dX12_waters_30 ?_
  refine x_iload_n C.1 dX12_waters_31 4 rfl ?_
  refine x_iadd C.1 (v := x2) (by omega) dX12_waters_32 ?_
  obtain ⟨z3, ez3, bz3⟩ := hI1c.rd 1 x2.toNat (x := 0) (y := 24) (rgN_8 (Or.inl rfl) (by omega))
  replace hF := hF.to (rdb_e (z := z3) ez3)
  replace hF := hF.fc bz3
  refine x_iald C (N := 33) (i := 1) (q := x2) (by decide) rfl (by omega) (by decide) dX12_waters_33 (a := z3) ez3 ?_
  refine x_iload C.1 dX12_waters_34 0 rfl ?_
  refine x_callSi C (As := [vI z3, vI (z2 + z1)]) (rest := [vI (x2 + 4), .ref (ad 1)]) (m_min l D cy z3 ⟨by omega, by omega⟩ (z2 + z1) ⟨by omega, by omega⟩) (l1 := []) (l2 := _) rfl (w2 := fun _ => _) (fun _ => rfl) rfl wm_yX12_min wn_X12 wl_X12_133 wi_yX12_min hd_yX12_min rfl ⟨Nat.le_of_ble_eq_true rfl, Nat.le_of_ble_eq_true rfl⟩ (Nat.le_of_ble_eq_true rfl) ⟨Nat.le_of_ble_eq_true rfl, Nat.le_of_ble_eq_true rfl⟩ dX12_waters_36 (fun z4 u4 bz4 h4 => ?_)
  obtain ⟨hx4_0, hFc4⟩ := h4
  replace hF := calR_i hF hFc4
  have bm5 : 0 ≤ z4 ∧ z4 ≤ 24 := by omega
  skip
  refine x_iast C (N := 33) (i := 1) (q := x2 + 4) (a := z4) (by decide) rfl (by omega) (by decide) dX12_waters_39 ?_
  refine x_gV ?_
  intro V6 hV6
  have hI6 : WI K G V6 := hI1c.up hV6 (rgN_8 (Or.inl rfl) (by omega)) (by omega) rfl (Or.inr (by omega))
  have hB6 := hB1.up hV6 (by rw [mkey_r (by decide)]; rfl)
  replace hF := hF.to (rdb_e (z := V6) hV6.symm)
  refine x_aload_n C.1 dX12_waters_40 2 rfl ?_
  refine x_getA C (N := 33) (i := 0) (by decide) rfl vc_X12 wx_X12 0 (by decide) wf_X12_7 (a := 1) rfl dX12_waters_41 ?_
  refine x_bipush C.1 (n := 68) dX12_waters_44 ?_
  refine x_iload_n C.1 dX12_waters_46 3 rfl ?_
  refine x_iadd C.1 (v := x1 + 68) (by omega) dX12_waters_47 ?_
  refine x_aload_n C.1 dX12_waters_48 2 rfl ?_
  refine x_getA C (N := 33) (i := 0) (by decide) rfl vc_X12 wx_X12 0 (by decide) wf_X12_7 (a := 1) rfl dX12_waters_49 ?_
  refine x_bipush C.1 (n := 68) dX12_waters_52 ?_
  refine x_iload_n C.1 dX12_waters_54 3 rfl ?_
  refine x_iadd C.1 (v := x1 + 68) (by omega) dX12_waters_55 ?_
  obtain ⟨z7, ez7, bz7⟩ := hI6.rd 1 ((x1 + 68).toNat) (x := -2147483648) (y := 2147483647) (rgN_81 (Or.inl rfl) (by omega))
  replace hF := hF.to (rdb_e (z := z7) ez7)
  refine x_iald C (N := 33) (i := 1) (q := x1 + 68) (by decide) rfl (by omega) (by decide) dX12_waters_56 (a := z7) ez7 ?_
  refine x_iload_n C.1 dX12_waters_57 1 rfl ?_
  refine x_iadd C.1 (v := z7 + z1) (by omega) dX12_waters_58 ?_
  refine x_wrapg ?_
  intro z8 bz8 ew8
  replace hF := hF.to (rdb_e (z := z8) ew8.symm)
  refine x_iast C (N := 33) (i := 1) (q := x1 + 68) (a := z8) (by decide) rfl (by omega) (by decide) dX12_waters_59 ?_
  refine x_gV ?_
  intro V9 hV9
  have hI9 : WI K G V9 := hI6.up hV9 (rgN_81 (Or.inl rfl) (by omega)) (by omega) rfl (Or.inr (by omega))
  have hB9 := hB6.up hV9 (by rw [mkey_r (by decide)]; rfl)
  replace hF := hF.to (rdb_e (z := V9) hV9.symm)
  refine x_aload_n C.1 dX12_waters_60 2 rfl ?_
  refine x_aload_n C.1 dX12_waters_61 2 rfl ?_
  obtain ⟨z10, ez10, bz10⟩ := hI9.rd 0 27 (x := -2147483648) (y := 2147483647) rfl
  replace hF := hF.to (rdb_e (z := z10) ez10)
  refine x_getI C (N := 33) (i := 0) (by decide) rfl vc_X12 wx_X12 27 (by decide) wf_X12_266 rfl dX12_waters_62 (a := z10) ez10 ?_
  refine x_iload_n C.1 dX12_waters_65 1 rfl ?_
  refine x_iadd C.1 (v := z10 + z1) (by omega) dX12_waters_66 ?_
  refine x_wrapg ?_
  intro z11 bz11 ew11
  replace hF := hF.to (rdb_e (z := z11) ew11.symm)
  refine x_putI C (N := 33) (i := 0) (by decide) rfl vc_X12 wx_X12 27 (by decide) wf_X12_266 tyX12 tyX12_ok nmX12 rfl (tyX12_ok 27 (by decide)) rfl dX12_waters_67 rfl rfl ?_
  refine x_gV ?_
  intro V12 hV12
  have hI12 : WI K G V12 := hI9.up hV12 rfl (by omega) rfl (Or.inl (by decide))
  have hB12 := hB9.up hV12 rfl
  replace hF := hF.to (rdb_e (z := V12) hV12.symm)
  refine x_aload_n C.1 dX12_waters_70 2 rfl ?_
  refine x_aload_n C.1 dX12_waters_71 2 rfl ?_
  obtain ⟨z13, ez13, bz13⟩ := hI12.rd 0 28 (x := -2147483648) (y := 2147483647) rfl
  replace hF := hF.to (rdb_e (z := z13) ez13)
  refine x_getI C (N := 33) (i := 0) (by decide) rfl vc_X12 wx_X12 28 (by decide) wf_X12_269 rfl dX12_waters_72 (a := z13) ez13 ?_
  refine x_iload C.1 dX12_waters_75 0 rfl ?_
  refine x_iadd C.1 (v := z13 + z2 + z1) (by omega) dX12_waters_77 ?_
  refine x_wrapg ?_
  intro z14 bz14 ew14
  replace hF := hF.to (rdb_e (z := z14) ew14.symm)
  refine x_aload_n C.1 dX12_waters_78 2 rfl ?_
  refine x_getA C (N := 33) (i := 0) (by decide) rfl vc_X12 wx_X12 0 (by decide) wf_X12_7 (a := 1) rfl dX12_waters_79 ?_
  refine x_iconst C.1 (n := 4) dX12_waters_82 ?_
  refine x_iload_n C.1 dX12_waters_83 4 rfl ?_
  refine x_iadd C.1 (v := x2 + 4) (by omega) dX12_waters_84 ?_
  refine x_iald C (N := 33) (i := 1) (q := x2 + 4) (by decide) rfl (by omega) (by decide) dX12_waters_85 (a := z4) ((congrFun (congrFun hV12 1) ((x2 + 4).toNat)).trans ((up2_n _ _ (Or.inl (by decide))).trans ((congrFun (congrFun hV9 1) ((x2 + 4).toNat)).trans ((up2_n _ _ (Or.inr (by omega))).trans ((congrFun (congrFun hV6 1) ((x2 + 4).toNat)).trans (up2_s _ _ _ _)))))) ?_
  refine x_isub C.1 (v := z14 - z4) (by omega) dX12_waters_86 ?_
  refine x_wrapg ?_
  intro z15 bz15 ew15
  replace hF := hF.to (rdb_e (z := z15) ew15.symm)
  refine x_putI C (N := 33) (i := 0) (by decide) rfl vc_X12 wx_X12 28 (by decide) wf_X12_269 tyX12 tyX12_ok nmX12 rfl (tyX12_ok 28 (by decide)) rfl dX12_waters_87 rfl rfl ?_
  refine x_gV ?_
  intro V16 hV16
  have hI16 : WI K G V16 := hI12.up hV16 rfl (by omega) rfl (Or.inl (by decide))
  have hB16 := hB12.up hV16 rfl
  replace hF := hF.to (rdb_e (z := V16) hV16.symm)
  refine x_aload_n C.1 dX12_waters_90 2 rfl ?_
  refine x_getA C (N := 33) (i := 0) (by decide) rfl vc_X12 wx_X12 30 (by decide) wf_X12_65 (a := 19) rfl dX12_waters_91 ?_
  refine x_iload_n C.1 dX12_waters_94 3 rfl ?_
  refine x_aload_n C.1 dX12_waters_95 2 rfl ?_
  refine x_getA C (N := 33) (i := 0) (by decide) rfl vc_X12 wx_X12 30 (by decide) wf_X12_65 (a := 19) rfl dX12_waters_96 ?_
  refine x_iload_n C.1 dX12_waters_99 3 rfl ?_
  obtain ⟨z17, ez17, bz17⟩ := hI16.rd 19 x1.toNat (x := -2147483648) (y := 2147483647) rfl
  replace hF := hF.to (rdb_e (z := z17) ez17)
  refine x_iald C (N := 33) (i := 19) (q := x1) (by decide) rfl (by omega) (by decide) dX12_waters_100 (a := z17) ez17 ?_
  refine x_iload_n C.1 dX12_waters_101 1 rfl ?_
  refine x_iadd C.1 (v := z17 + z1) (by omega) dX12_waters_102 ?_
  refine x_wrapg ?_
  intro z18 bz18 ew18
  replace hF := hF.to (rdb_e (z := z18) ew18.symm)
  refine x_iast C (N := 33) (i := 19) (q := x1) (a := z18) (by decide) rfl (by omega) (by decide) dX12_waters_103 ?_
  refine x_gV ?_
  intro V19 hV19
  have hI19 : WI K G V19 := hI16.up hV19 rfl (by omega) rfl (Or.inl (by decide))
  have hB19 := hB16.up hV19 (by rw [mkey_r (by decide)]; rfl)
  replace hF := hF.to (rdb_e (z := V19) hV19.symm)
  refine x_iload_n C.1 dX12_waters_104 1 rfl ?_
  refine x_if_le C.1 (tgt := 138) dX12_waters_105 (by decide) (by omega) (fun hc20 => ?_) (fun hc20 => ?_)
  · replace hF := hF.to (if_pos hc20)
    exact x_vret (S := (Nat → Nat → Int)) (post := (fun u : Nat → Nat → Int => WI K G u ∧ FBm 16924998368092956267642880 V u ∧ (f_m_waters x1 x2 V J Rr) u)) (w1 := (fun u : Nat → Nat → Int => MW cy ad u J Rr)) C hr rfl dX12_waters_138 V19 rfl ⟨hI19, hB19, hF _ rfl⟩
  · replace hF := hF.to (if_neg hc20)
    refine x_aload_n C.1 dX12_waters_108 2 rfl ?_
    refine x_getA C (N := 33) (i := 0) (by decide) rfl vc_X12 wx_X12 0 (by decide) wf_X12_7 (a := 1) rfl dX12_waters_109 ?_
    refine x_bipush C.1 (n := 20) dX12_waters_112 ?_
    refine x_iload_n C.1 dX12_waters_114 4 rfl ?_
    refine x_iadd C.1 (v := x2 + 20) (by omega) dX12_waters_115 ?_
    obtain ⟨z21, ez21, bz21⟩ := hI19.rd 1 ((x2 + 20).toNat) (x := -2147483648) (y := 2147483647) (rgN_60 (Or.inl rfl) (by omega))
    replace hF := hF.to (rdb_e (z := z21) ez21)
    refine x_iald C (N := 33) (i := 1) (q := x2 + 20) (by decide) rfl (by omega) (by decide) dX12_waters_116 (a := z21) ez21 ?_
    refine x_bipush C.1 (n := -2) dX12_waters_117 ?_
    refine x_icmp_eq C.1 (tgt := 138) dX12_waters_119 (by decide) (by omega) (by decide) (fun hc22 => ?_) (fun hc22 => ?_)
    · replace hF := hF.to (if_pos hc22)
      exact x_vret (S := (Nat → Nat → Int)) (post := (fun u : Nat → Nat → Int => WI K G u ∧ FBm 16924998368092956267642880 V u ∧ (f_m_waters x1 x2 V J Rr) u)) (w1 := (fun u : Nat → Nat → Int => MW cy ad u J Rr)) C hr rfl dX12_waters_138 V19 rfl ⟨hI19, hB19, hF _ rfl⟩
    · replace hF := hF.to (if_neg hc22)
      refine x_aload_n C.1 dX12_waters_122 2 rfl ?_
      refine x_getA C (N := 33) (i := 0) (by decide) rfl vc_X12 wx_X12 0 (by decide) wf_X12_7 (a := 1) rfl dX12_waters_123 ?_
      refine x_bipush C.1 (n := 20) dX12_waters_126 ?_
      refine x_iload_n C.1 dX12_waters_128 4 rfl ?_
      refine x_iadd C.1 (v := x2 + 20) (by omega) dX12_waters_129 ?_
      refine x_aload_n C.1 dX12_waters_130 2 rfl ?_
      refine x_getA C (N := 33) (i := 0) (by decide) rfl vc_X12 wx_X12 0 (by decide) wf_X12_7 (a := 1) rfl dX12_waters_131 ?_
      refine x_bipush C.1 (n := 79) dX12_waters_134 ?_
      obtain ⟨z23, ez23, bz23⟩ := hI19.rd 1 79 (x := -2147483648) (y := 2147483647) (rgN_81 (Or.inl rfl) (by decide))
      replace hF := hF.to (rdb_e (z := z23) ez23)
      refine x_iald C (N := 33) (i := 1) (q := 79) (by decide) rfl (by decide) (by decide) dX12_waters_136 (a := z23) ez23 ?_
      refine x_iast C (N := 33) (i := 1) (q := x2 + 20) (a := z23) (by decide) rfl (by omega) (by decide) dX12_waters_137 ?_
      refine x_gV ?_
      intro V24 hV24
      have hI24 : WI K G V24 := hI19.up hV24 (rgN_60 (Or.inl rfl) (by omega)) (by omega) rfl (Or.inr (by omega))
      have hB24 := hB19.up hV24 (by rw [mkey_r (by decide)]; rfl)
      replace hF := hF.to (rdb_e (z := V24) hV24.symm)
      exact x_vret (S := (Nat → Nat → Int)) (post := (fun u : Nat → Nat → Int => WI K G u ∧ FBm 16924998368092956267642880 V u ∧ (f_m_waters x1 x2 V J Rr) u)) (w1 := (fun u : Nat → Nat → Int => MW cy ad u J Rr)) C hr rfl dX12_waters_138 V24 rfl ⟨hI24, hB24, hF _ rfl⟩
