theorem dX12_lastsWith_0 : decode cX12_lastsWith 0 = .ok (.aload_n 0, 1) := by decide +kernel
theorem dX12_lastsWith_1 : decode cX12_lastsWith 1 = .ok (.getfield 7, 3) := by decide +kernel
theorem dX12_lastsWith_4 : decode cX12_lastsWith 4 = .ok (.aload_n 0, 1) := by decide +kernel
theorem dX12_lastsWith_5 : decode cX12_lastsWith 5 = .ok (.getfield 13, 3) := by decide +kernel
theorem dX12_lastsWith_8 : decode cX12_lastsWith 8 = .ok (.invokestatic 294, 3) := by decide +kernel
theorem dX12_lastsWith_11 : decode cX12_lastsWith 11 = .ok (.aload_n 0, 1) := by decide +kernel
theorem dX12_lastsWith_12 : decode cX12_lastsWith 12 = .ok (.getfield 7, 3) := by decide +kernel
theorem dX12_lastsWith_15 : decode cX12_lastsWith 15 = .ok (.iconst 4, 1) := by decide +kernel
theorem dX12_lastsWith_16 : decode cX12_lastsWith 16 = .ok (.iload_n 1, 1) := by decide +kernel
theorem dX12_lastsWith_17 : decode cX12_lastsWith 17 = .ok (.iadd, 1) := by decide +kernel
theorem dX12_lastsWith_18 : decode cX12_lastsWith 18 = .ok (.aload_n 0, 1) := by decide +kernel
theorem dX12_lastsWith_19 : decode cX12_lastsWith 19 = .ok (.getfield 7, 3) := by decide +kernel
theorem dX12_lastsWith_22 : decode cX12_lastsWith 22 = .ok (.iconst 0, 1) := by decide +kernel
theorem dX12_lastsWith_23 : decode cX12_lastsWith 23 = .ok (.iload_n 1, 1) := by decide +kernel
theorem dX12_lastsWith_24 : decode cX12_lastsWith 24 = .ok (.iadd, 1) := by decide +kernel
theorem dX12_lastsWith_25 : decode cX12_lastsWith 25 = .ok (.iaload, 1) := by decide +kernel
theorem dX12_lastsWith_26 : decode cX12_lastsWith 26 = .ok (.aload_n 0, 1) := by decide +kernel
theorem dX12_lastsWith_27 : decode cX12_lastsWith 27 = .ok (.getfield 7, 3) := by decide +kernel
theorem dX12_lastsWith_30 : decode cX12_lastsWith 30 = .ok (.iconst 4, 1) := by decide +kernel
theorem dX12_lastsWith_31 : decode cX12_lastsWith 31 = .ok (.iload_n 1, 1) := by decide +kernel
theorem dX12_lastsWith_32 : decode cX12_lastsWith 32 = .ok (.iadd, 1) := by decide +kernel
theorem dX12_lastsWith_33 : decode cX12_lastsWith 33 = .ok (.iaload, 1) := by decide +kernel
theorem dX12_lastsWith_34 : decode cX12_lastsWith 34 = .ok (.iload_n 2, 1) := by decide +kernel
theorem dX12_lastsWith_35 : decode cX12_lastsWith 35 = .ok (.iadd, 1) := by decide +kernel
theorem dX12_lastsWith_36 : decode cX12_lastsWith 36 = .ok (.invokestatic 133, 3) := by decide +kernel
theorem dX12_lastsWith_39 : decode cX12_lastsWith 39 = .ok (.iastore, 1) := by decide +kernel
theorem dX12_lastsWith_40 : decode cX12_lastsWith 40 = .ok (.iconst 0, 1) := by decide +kernel
theorem dX12_lastsWith_41 : decode cX12_lastsWith 41 = .ok (.istore_n 3, 1) := by decide +kernel
theorem dX12_lastsWith_42 : decode cX12_lastsWith 42 = .ok (.iload_n 3, 1) := by decide +kernel
theorem dX12_lastsWith_43 : decode cX12_lastsWith 43 = .ok (.bipush 60, 2) := by decide +kernel
theorem dX12_lastsWith_45 : decode cX12_lastsWith 45 = .ok (.if_icmp .ge 43, 3) := by decide +kernel
theorem dX12_lastsWith_48 : decode cX12_lastsWith 48 = .ok (.aload_n 0, 1) := by decide +kernel
theorem dX12_lastsWith_49 : decode cX12_lastsWith 49 = .ok (.iload_n 1, 1) := by decide +kernel
theorem dX12_lastsWith_50 : decode cX12_lastsWith 50 = .ok (.iconst 0, 1) := by decide +kernel
theorem dX12_lastsWith_51 : decode cX12_lastsWith 51 = .ok (.invokevirtual 284, 3) := by decide +kernel
theorem dX12_lastsWith_54 : decode cX12_lastsWith 54 = .ok (.aload_n 0, 1) := by decide +kernel
theorem dX12_lastsWith_55 : decode cX12_lastsWith 55 = .ok (.iload_n 1, 1) := by decide +kernel
theorem dX12_lastsWith_56 : decode cX12_lastsWith 56 = .ok (.invokevirtual 130, 3) := by decide +kernel
theorem dX12_lastsWith_59 : decode cX12_lastsWith 59 = .ok (.ifCond .ne 6, 3) := by decide +kernel
theorem dX12_lastsWith_62 : decode cX12_lastsWith 62 = .ok (.goto 26, 3) := by decide +kernel
theorem dX12_lastsWith_65 : decode cX12_lastsWith 65 = .ok (.aload_n 0, 1) := by decide +kernel
theorem dX12_lastsWith_66 : decode cX12_lastsWith 66 = .ok (.getfield 7, 3) := by decide +kernel
theorem dX12_lastsWith_69 : decode cX12_lastsWith 69 = .ok (.bipush 79, 2) := by decide +kernel
theorem dX12_lastsWith_71 : decode cX12_lastsWith 71 = .ok (.aload_n 0, 1) := by decide +kernel
theorem dX12_lastsWith_72 : decode cX12_lastsWith 72 = .ok (.getfield 7, 3) := by decide +kernel
theorem dX12_lastsWith_75 : decode cX12_lastsWith 75 = .ok (.bipush 79, 2) := by decide +kernel
theorem dX12_lastsWith_77 : decode cX12_lastsWith 77 = .ok (.iaload, 1) := by decide +kernel
theorem dX12_lastsWith_78 : decode cX12_lastsWith 78 = .ok (.iconst 1, 1) := by decide +kernel
theorem dX12_lastsWith_79 : decode cX12_lastsWith 79 = .ok (.iadd, 1) := by decide +kernel
theorem dX12_lastsWith_80 : decode cX12_lastsWith 80 = .ok (.iastore, 1) := by decide +kernel
theorem dX12_lastsWith_81 : decode cX12_lastsWith 81 = .ok (.iload_n 3, 1) := by decide +kernel
theorem dX12_lastsWith_82 : decode cX12_lastsWith 82 = .ok (.iconst 1, 1) := by decide +kernel
theorem dX12_lastsWith_83 : decode cX12_lastsWith 83 = .ok (.iadd, 1) := by decide +kernel
theorem dX12_lastsWith_84 : decode cX12_lastsWith 84 = .ok (.istore_n 3, 1) := by decide +kernel
theorem dX12_lastsWith_85 : decode cX12_lastsWith 85 = .ok (.goto (-43), 3) := by decide +kernel
theorem dX12_lastsWith_88 : decode cX12_lastsWith 88 = .ok (.aload_n 0, 1) := by decide +kernel
theorem dX12_lastsWith_89 : decode cX12_lastsWith 89 = .ok (.getfield 13, 3) := by decide +kernel
theorem dX12_lastsWith_92 : decode cX12_lastsWith 92 = .ok (.aload_n 0, 1) := by decide +kernel
theorem dX12_lastsWith_93 : decode cX12_lastsWith 93 = .ok (.getfield 7, 3) := by decide +kernel
theorem dX12_lastsWith_96 : decode cX12_lastsWith 96 = .ok (.invokestatic 294, 3) := by decide +kernel
theorem dX12_lastsWith_99 : decode cX12_lastsWith 99 = .ok (.iload_n 3, 1) := by decide +kernel
theorem dX12_lastsWith_100 : decode cX12_lastsWith 100 = .ok (.ireturn, 1) := by decide +kernel
set_option maxRecDepth 100000 in
def f_m_lastsWith (x1 : Int) (x2 : Int) (V : Nat → Nat → Int) (J : Nat → Nat → Int) (Rr : Nat → Nat → Nat) : (Int × (Nat → Nat → Int)) → Prop :=
  rdb (V 1 ((x1 + 12).toNat)) fun z1 => fct (0 ≤ z1 ∧ z1 ≤ 8) <| rdb (V 1 ((x1 + 16).toNat)) fun z2 => fct (0 ≤ z2 ∧ z2 ≤ 8) <| rdb (cpN V 1 2 81) fun V3 => rdb (V3 1 x1.toNat) fun z4 => fct (0 ≤ z4 ∧ z4 ≤ 24) <| rdb (V3 1 ((x1 + 4).toNat)) fun z5 => fct (0 ≤ z5 ∧ z5 ≤ 24) <| calR (f_m_min z4 (z5 + x2)) fun z6 => rdb (up2 V3 1 ((x1 + 4).toNat) z6) fun V8 => lop2 (62) (fun rc91 (z90 : Int) (V91 : Nat → Nat → Int) => (if 60 ≤ z90 then rdb (cpN V91 2 1 81) fun V107 => rtn (z90, V107) else rdb (V91 1 ((x1 + 12).toNat)) fun z108 => fct (0 ≤ z108 ∧ z108 ≤ 8) <| rdb (V91 1 ((x1 + 16).toNat)) fun z109 => fct (0 ≤ z109 ∧ z109 ≤ 8) <| calUM 7253591811175922467340288 V91 (f_m_dries x1 0 V91 J Rr) fun V110 => calR (f_m_lives x1 V110 J Rr) fun z111 => fct (0 ≤ z111 ∧ z111 ≤ 1) <| (if ¬ z111 = 0 then rdb (V110 1 ((x1 + 12).toNat)) fun z114 => fct (0 ≤ z114 ∧ z114 ≤ 8) <| rdb (V110 1 ((x1 + 16).toNat)) fun z115 => fct (0 ≤ z115 ∧ z115 ≤ 8) <| rdb (V110 1 79) fun z116 => rdb (wr (z116 + 1)) fun z117 => rdb (up2 V110 1 79 z117) fun V118 => rc91 (z90 + 1) V118 else rdb (cpN V110 2 1 81) fun V119 => rtn (z90, V119)))) 0 V8
set_option maxHeartbeats 8000000 in
set_option maxRecDepth 100000 in
theorem m_lastsWith (l : Launch) (D : va_G) (cy : Nat → ClassId) (ad : Nat → Nat) (G : Nat → Nat → Int) (V J : Nat → Nat → Int) (Rr : Nat → Nat → Nat) (hI : MI G V) (hJ : VJ J) (hR : MR Rr) (x1 : Int) (bx1 : 0 ≤ x1 ∧ x1 ≤ 3) (x2 : Int) (bx2 : 0 ≤ x2 ∧ x2 ≤ 24) (hW : WP G) (hal : V 1 (12 + x1.toNat) ≤ 8 ∧ V 1 (16 + x1.toNat) ≤ 8) : xMi l D (xTY cy) yX12_lastsWith cX12_lastsWith 4 (some .int) 4 99 0 0 [.ref (ad 0), vI x1, vI x2] (MW cy ad V J Rr) (fun u : Nat → Nat → Int => MW cy ad u J Rr) (fun a (u : Nat → Nat → Int) => MI G u ∧ (∀ k : Nat, k < 81 → u 1 k = V 1 k) ∧ FBm 7253665598152217305546752 V u ∧ (f_m_lastsWith x1 x2 V J Rr) (a, u)) := by
  refine xMi.mk (lv0 := [(0, .ref (ad 0)), (1, vI x1), (2, vI x2)]) (by decide) rfl (Nat.le_of_ble_eq_true rfl) (fun p e s m below meth c A C hr hnm hAe => ?_)
  have C : xC2 p s m _ meth c D A s.heap 4 cX12_lastsWith RX12 (xTY cy) := C
  have hB : FBm 7253665598152217305546752 V V := FBm.rf _ _
  have hF := Imp.of_eq (f_m_lastsWith.eq_def x1 x2 V J Rr)
  obtain ⟨z1, ez1, bz1⟩ := hI.rd 1 ((x1 + 12).toNat) (x := 0) (y := 9) (rgN_20 (Or.inl rfl) (by omega))
  have by1 : z1 ≤ 8 := by rw [← ez1, show (x1 + 12).toNat = 12 + x1.toNat by omega]; exact hal.1
  replace hF := hF.to (rdb_e (z := z1) ez1)
  replace hF := hF.fc ⟨bz1.1, by1⟩
  obtain ⟨z2, ez2, bz2⟩ := hI.rd 1 ((x1 + 16).toNat) (x := 0) (y := 9) (rgN_20 (Or.inl rfl) (by omega))
  have by2 : z2 ≤ 8 := by rw [← ez2, show (x1 + 16).toNat = 16 + x1.toNat by omega]; exact hal.2
  replace hF := hF.to (rdb_e (z := z2) ez2)
  replace hF := hF.fc ⟨bz2.1, by2⟩
  refine x_aload_n C.1 dX12_lastsWith_0 0 rfl ?_
  refine x_getA C (N := 33) (i := 0) (by decide) rfl vc_X12 wx_X12 0 (by decide) wf_X12_7 (a := 1) rfl dX12_lastsWith_1 ?_
  refine x_aload_n C.1 dX12_lastsWith_4 0 rfl ?_
  refine x_getA C (N := 33) (i := 0) (by decide) rfl vc_X12 wx_X12 1 (by decide) wf_X12_13 (a := 2) rfl dX12_lastsWith_5 ?_
  refine x_callSv C (As := [.ref (ad 1), .ref (ad 2)]) (rest := []) (c_copies l D cy ad V J Rr hI.vr hJ 1 2 (by decide) (by decide) rfl rfl (by decide)) (l1 := []) (l2 := []) (List.append_nil _).symm (w2 := fun u : xS => MW cy ad u.1 u.2.1 u.2.2) (fun _ => List.append_nil _) rfl wm_yX12_copies wn_X12 wl_X12_294 wi_yX12_copies hd_yX12_copies rfl ⟨Nat.le_of_ble_eq_true rfl, Nat.le_of_ble_eq_true rfl⟩ (Nat.le_of_ble_eq_true rfl) ⟨Nat.le_of_ble_eq_true rfl, Nat.le_of_ble_eq_true rfl⟩ dX12_lastsWith_8 (fun u3 h3 => ?_)
  subst h3
  dsimp only
  refine x_gV ?_
  intro V3 hV3
  have hI3 : MI G V3 := MI.cp hI hV3 (by decide) (by decide)
  have hB3 := hB.cp hV3 (fun _ => by rw [mkey_r (by decide)]; rfl)
  replace hF := hF.to (rdb_e (z := V3) hV3.symm)
  refine x_aload_n C.1 dX12_lastsWith_11 0 rfl ?_
  refine x_getA C (N := 33) (i := 0) (by decide) rfl vc_X12 wx_X12 0 (by decide) wf_X12_7 (a := 1) rfl dX12_lastsWith_12 ?_
  refine x_iconst C.1 (n := 4) dX12_lastsWith_15 ?_
  refine x_iload_n C.1 dX12_lastsWith_16 1 rfl ?_
  refine x_iadd C.1 (v := x1 + 4) (by omega) dX12_lastsWith_17 ?_
  refine x_aload_n C.1 dX12_lastsWith_18 0 rfl ?_
  refine x_getA C (N := 33) (i := 0) (by decide) rfl vc_X12 wx_X12 0 (by decide) wf_X12_7 (a := 1) rfl dX12_lastsWith_19 ?_
  refine x_iconst C.1 (n := 0) dX12_lastsWith_22 ?_
  refine x_iload_n C.1 dX12_lastsWith_23 1 rfl ?_
  refine x_iadd C.1 (v := x1) (by omega) dX12_lastsWith_24 ?_
  obtain ⟨z4, ez4, bz4⟩ := hI3.rd 1 x1.toNat (x := 0) (y := 24) (rgN_8 (Or.inl rfl) (by omega))
  replace hF := hF.to (rdb_e (z := z4) ez4)
  replace hF := hF.fc bz4
  refine x_iald C (N := 33) (i := 1) (q := x1) (by decide) rfl (by omega) (by decide) dX12_lastsWith_25 (a := z4) ez4 ?_
  refine x_aload_n C.1 dX12_lastsWith_26 0 rfl ?_
  refine x_getA C (N := 33) (i := 0) (by decide) rfl vc_X12 wx_X12 0 (by decide) wf_X12_7 (a := 1) rfl dX12_lastsWith_27 ?_
  refine x_iconst C.1 (n := 4) dX12_lastsWith_30 ?_
  refine x_iload_n C.1 dX12_lastsWith_31 1 rfl ?_
  refine x_iadd C.1 (v := x1 + 4) (by omega) dX12_lastsWith_32 ?_
  obtain ⟨z5, ez5, bz5⟩ := hI3.rd 1 ((x1 + 4).toNat) (x := 0) (y := 24) (rgN_8 (Or.inl rfl) (by omega))
  replace hF := hF.to (rdb_e (z := z5) ez5)
  replace hF := hF.fc bz5
  refine x_iald C (N := 33) (i := 1) (q := x1 + 4) (by decide) rfl (by omega) (by decide) dX12_lastsWith_33 (a := z5) ez5 ?_
  refine x_iload_n C.1 dX12_lastsWith_34 2 rfl ?_
  refine x_iadd C.1 (v := z5 + x2) (by omega) dX12_lastsWith_35 ?_
  refine x_callSi C (As := [vI z4, vI (z5 + x2)]) (rest := [vI (x1 + 4), .ref (ad 1)]) (m_min l D cy z4 ⟨by omega, by omega⟩ (z5 + x2) ⟨by omega, by omega⟩) (l1 := []) (l2 := _) rfl (w2 := fun _ => _) (fun _ => rfl) rfl wm_yX12_min wn_X12 wl_X12_133 wi_yX12_min hd_yX12_min rfl ⟨Nat.le_of_ble_eq_true rfl, Nat.le_of_ble_eq_true rfl⟩ (Nat.le_of_ble_eq_true rfl) ⟨Nat.le_of_ble_eq_true rfl, Nat.le_of_ble_eq_true rfl⟩ dX12_lastsWith_36 (fun z6 u6 bz6 h6 => ?_)
  obtain ⟨hx6_0, hFc6⟩ := h6
  replace hF := calR_i hF hFc6
  have bm7 : 0 ≤ z6 ∧ z6 ≤ 24 := by omega
  skip
  refine x_iast C (N := 33) (i := 1) (q := x1 + 4) (a := z6) (by decide) rfl (by omega) (by decide) dX12_lastsWith_39 ?_
  refine x_gV ?_
  intro V8 hV8
  have hI8 : MI G V8 := hI3.up hV8 (rgN_8 (Or.inl rfl) (by omega)) (by omega) rfl (Or.inr (by omega))
  have hB8 := hB3.up hV8 (by rw [mkey_r (by decide)]; rfl)
  replace hF := hF.to (rdb_e (z := V8) hV8.symm)
  refine x_iconst C.1 (n := 0) dX12_lastsWith_40 ?_
  refine x_istore_n C.1 (lv' := [(3, vI 0), (0, .ref (ad 0)), (1, vI x1), (2, vI x2)]) dX12_lastsWith_41 (by decide) rfl ?_
  obtain ⟨bd91, hbd91, hF⟩ := lop2_ex hF
  refine x_loop (I := fun x : Int × (Nat → Nat → Int) => match x with | (z90, V91) => (0 ≤ z90 ∧ z90 ≤ 60) ∧ MI G V91 ∧ FBm 7253665598152217305546752 V V91 ∧ (∀ k : Nat, k < 81 → V91 2 k = V 1 k) ∧ (V91 1 (12 + x1.toNat) ≤ 8 ∧ V91 1 (16 + x1.toNat) ≤ 8) ∧ (∃ nf : Nat, (61 - z90).toNat < nf ∧ Imp (lop2 nf bd91 z90 V91) (f_m_lastsWith x1 x2 V J Rr))) (μ := fun x : Int × (Nat → Nat → Int) => match x with | (z90, V91) => (61 - z90).toNat) (wsf := fun x : Int × (Nat → Nat → Int) => match x with | (z90, V91) => MW cy ad V91 J Rr) (lvf := fun x : Int × (Nat → Nat → Int) => match x with | (z90, V91) => [(3, vI z90), (0, .ref (ad 0)), (1, vI x1), (2, vI x2)]) (fun x hI91x ih91 => ?_) (0, V8) ⟨⟨by decide, by decide⟩, hI8, hB8, (fun k hk => (congrFun (congrFun hV8 2) k).trans ((up2_n _ _ (Or.inl (by decide))).trans ((congrFun (congrFun hV3 2) k).trans (cpN_at hk)))), ⟨by rw [show 12 + x1.toNat = (x1 + 12).toNat by omega, ((congrFun (congrFun hV8 1) ((x1 + 12).toNat)).trans ((up2_n _ _ (Or.inr (by omega))).trans ((congrFun (congrFun hV3 1) ((x1 + 12).toNat)).trans ((congrFun (cpN_n (by decide)) _).trans ez1))))]; omega, by rw [show 16 + x1.toNat = (x1 + 16).toNat by omega, ((congrFun (congrFun hV8 1) ((x1 + 16).toNat)).trans ((up2_n _ _ (Or.inr (by omega))).trans ((congrFun (congrFun hV3 1) ((x1 + 16).toNat)).trans ((congrFun (cpN_n (by decide)) _).trans ez2))))]; omega⟩, ⟨_, (by omega), hF⟩⟩ rfl rfl
  obtain ⟨z90, V91⟩ := x
  obtain ⟨bz90, hI91, hB91, hrow, hal2, nf91, hn91, hF⟩ := hI91x
  try dsimp only
  obtain ⟨nf91, rfl⟩ : ∃ mm, nf91 = mm + 1 := ⟨nf91 - 1, (Nat.succ_pred_eq_of_pos (Nat.lt_of_le_of_lt (Nat.zero_le _) hn91)).symm⟩
  replace hF := hF.to (lop2_s hbd91)
  refine x_iload_n C.1 dX12_lastsWith_42 0 rfl ?_
  refine x_bipush C.1 (n := 60) dX12_lastsWith_43 ?_
  refine x_icmp_ge C.1 (tgt := 88) dX12_lastsWith_45 (by decide) (by omega) (by decide) (fun hc106 => ?_) (fun hc106 => ?_)
  · replace hF := hF.to (if_pos hc106)
    refine x_aload_n C.1 dX12_lastsWith_88 1 rfl ?_
    refine x_getA C (N := 33) (i := 0) (by decide) rfl vc_X12 wx_X12 1 (by decide) wf_X12_13 (a := 2) rfl dX12_lastsWith_89 ?_
    refine x_aload_n C.1 dX12_lastsWith_92 1 rfl ?_
    refine x_getA C (N := 33) (i := 0) (by decide) rfl vc_X12 wx_X12 0 (by decide) wf_X12_7 (a := 1) rfl dX12_lastsWith_93 ?_
    refine x_callSv C (As := [.ref (ad 2), .ref (ad 1)]) (rest := []) (c_copies l D cy ad V91 J Rr hI91.vr hJ 2 1 (by decide) (by decide) rfl rfl (by decide)) (l1 := []) (l2 := []) (List.append_nil _).symm (w2 := fun u : xS => MW cy ad u.1 u.2.1 u.2.2) (fun _ => List.append_nil _) rfl wm_yX12_copies wn_X12 wl_X12_294 wi_yX12_copies hd_yX12_copies rfl ⟨Nat.le_of_ble_eq_true rfl, Nat.le_of_ble_eq_true rfl⟩ (Nat.le_of_ble_eq_true rfl) ⟨Nat.le_of_ble_eq_true rfl, Nat.le_of_ble_eq_true rfl⟩ dX12_lastsWith_96 (fun u107 h107 => ?_)
    subst h107
    dsimp only
    refine x_gV ?_
    intro V107 hV107
    have hI107 : MI G V107 := MI.cp hI91 hV107 (by decide) (by decide)
    have hB107 := hB91.cp hV107 (fun _ => by rw [mkey_r (by decide)]; rfl)
    replace hF := hF.to (rdb_e (z := V107) hV107.symm)
    refine x_iload_n C.1 dX12_lastsWith_99 0 rfl ?_
    exact x_iret (S := (Nat → Nat → Int)) (post := (fun a (u : Nat → Nat → Int) => MI G u ∧ (∀ k : Nat, k < 81 → u 1 k = V 1 k) ∧ FBm 7253665598152217305546752 V u ∧ (f_m_lastsWith x1 x2 V J Rr) (a, u))) (w1 := (fun u : Nat → Nat → Int => MW cy ad u J Rr)) (a := z90) C hr rfl dX12_lastsWith_100 (by omega) V107 rfl ⟨hI107, (fun k hk => (congrFun (congrFun hV107 1) k).trans ((cpN_at hk).trans (hrow k hk))), hB107, hF _ rfl⟩
  · replace hF := hF.to (if_neg hc106)
    obtain ⟨z108, ez108, bz108⟩ := hI91.rd 1 ((x1 + 12).toNat) (x := 0) (y := 9) (rgN_20 (Or.inl rfl) (by omega))
    have by108 : z108 ≤ 8 := by rw [← ez108, show (x1 + 12).toNat = 12 + x1.toNat by omega]; exact hal2.1
    replace hF := hF.to (rdb_e (z := z108) ez108)
    replace hF := hF.fc ⟨bz108.1, by108⟩
    obtain ⟨z109, ez109, bz109⟩ := hI91.rd 1 ((x1 + 16).toNat) (x := 0) (y := 9) (rgN_20 (Or.inl rfl) (by omega))
    have by109 : z109 ≤ 8 := by rw [← ez109, show (x1 + 16).toNat = 16 + x1.toNat by omega]; exact hal2.2
    replace hF := hF.to (rdb_e (z := z109) ez109)
    replace hF := hF.fc ⟨bz109.1, by109⟩
    refine x_aload_n C.1 dX12_lastsWith_48 1 rfl ?_
    refine x_iload_n C.1 dX12_lastsWith_49 2 rfl ?_
    refine x_iconst C.1 (n := 0) dX12_lastsWith_50 ?_
    refine x_callVv C (As := [vI x1, vI 0]) (rest := []) 0 (xw_at (N := 33) (i := 0) (by decide) rfl) vc_X12 (m_dries l D cy ad G V91 J Rr (KI.self hI91) hJ hR x1 ⟨by omega, by omega⟩ 0 ⟨by decide, by decide⟩ hW ⟨by rw [show 12 + x1.toNat = (x1 + 12).toNat by omega, ez108]; omega, by rw [show 16 + x1.toNat = (x1 + 16).toNat by omega, ez109]; omega⟩) (l1 := []) (l2 := []) (List.append_nil _).symm (w2 := fun u : Nat → Nat → Int => MW cy ad u J Rr) (fun _ => List.append_nil _) rfl wm_yX12_dries wn_X12 wl_X12_284 wi_yX12_dries we_yX12_dries hd_yX12_dries rfl ⟨Nat.le_of_ble_eq_true rfl, Nat.le_of_ble_eq_true rfl⟩ (Nat.le_of_ble_eq_true rfl) ⟨Nat.le_of_ble_eq_true rfl, Nat.le_of_ble_eq_true rfl⟩ dX12_lastsWith_51 (fun V110 h110 => ?_)
    obtain ⟨hI110, hBc110, hFc110⟩ := h110
    replace hF := calUM_i hF hFc110 hBc110
    have hB110 := hB91.tr hBc110 (m := 7253591811175922467340288) rfl
    have hI110c := hI110.1
    refine x_aload_n C.1 dX12_lastsWith_54 1 rfl ?_
    refine x_iload_n C.1 dX12_lastsWith_55 2 rfl ?_
    refine x_callVi C (As := [vI x1]) (rest := []) 0 (xw_at (N := 33) (i := 0) (by decide) rfl) vc_X12 (m_lives l D cy ad G V110 J Rr hI110c hJ hR x1 ⟨by omega, by omega⟩) (l1 := []) (l2 := []) (List.append_nil _).symm (w2 := fun _ => MW cy ad V110 J Rr) (fun _ => List.append_nil _) rfl wm_yX12_lives wn_X12 wl_X12_130 wi_yX12_lives we_yX12_lives hd_yX12_lives rfl ⟨Nat.le_of_ble_eq_true rfl, Nat.le_of_ble_eq_true rfl⟩ (Nat.le_of_ble_eq_true rfl) ⟨Nat.le_of_ble_eq_true rfl, Nat.le_of_ble_eq_true rfl⟩ dX12_lastsWith_56 (fun z111 u111 bz111 h111 => ?_)
    obtain ⟨bq111, hx111_0, hFc111⟩ := h111
    replace hF := calR_i hF hFc111
    replace hF := hF.fc bq111
    refine x_if_ne C.1 (tgt := 65) dX12_lastsWith_59 (by decide) (by omega) (fun hc112 => ?_) (fun hc112 => ?_)
    · replace hF := hF.to (if_pos hc112)
      have hon113 := Sp.on hx111_0 (by omega)
      obtain ⟨z114, ez114, bz114⟩ := hI110c.rd 1 ((x1 + 12).toNat) (x := 0) (y := 9) (rgN_20 (Or.inl rfl) (by omega))
      have by114 : z114 ≤ 8 := by rw [← ez114, show (x1 + 12).toNat = 12 + x1.toNat by omega]; exact hon113.2.1
      replace hF := hF.to (rdb_e (z := z114) ez114)
      replace hF := hF.fc ⟨bz114.1, by114⟩
      obtain ⟨z115, ez115, bz115⟩ := hI110c.rd 1 ((x1 + 16).toNat) (x := 0) (y := 9) (rgN_20 (Or.inl rfl) (by omega))
      have by115 : z115 ≤ 8 := by rw [← ez115, show (x1 + 16).toNat = 16 + x1.toNat by omega]; exact hon113.2.2
      replace hF := hF.to (rdb_e (z := z115) ez115)
      replace hF := hF.fc ⟨bz115.1, by115⟩
      refine x_aload_n C.1 dX12_lastsWith_65 1 rfl ?_
      refine x_getA C (N := 33) (i := 0) (by decide) rfl vc_X12 wx_X12 0 (by decide) wf_X12_7 (a := 1) rfl dX12_lastsWith_66 ?_
      refine x_bipush C.1 (n := 79) dX12_lastsWith_69 ?_
      refine x_aload_n C.1 dX12_lastsWith_71 1 rfl ?_
      refine x_getA C (N := 33) (i := 0) (by decide) rfl vc_X12 wx_X12 0 (by decide) wf_X12_7 (a := 1) rfl dX12_lastsWith_72 ?_
      refine x_bipush C.1 (n := 79) dX12_lastsWith_75 ?_
      obtain ⟨z116, ez116, bz116⟩ := hI110c.rd 1 79 (x := -2147483648) (y := 2147483647) (rgN_81 (Or.inl rfl) (by decide))
      replace hF := hF.to (rdb_e (z := z116) ez116)
      refine x_iald C (N := 33) (i := 1) (q := 79) (by decide) rfl (by decide) (by decide) dX12_lastsWith_77 (a := z116) ez116 ?_
      refine x_iconst C.1 (n := 1) dX12_lastsWith_78 ?_
      refine x_iadd C.1 (v := z116 + 1) (by omega) dX12_lastsWith_79 ?_
      refine x_wrapg ?_
      intro z117 bz117 ew117
      replace hF := hF.to (rdb_e (z := z117) ew117.symm)
      refine x_iast C (N := 33) (i := 1) (q := 79) (a := z117) (by decide) rfl (by decide) (by decide) dX12_lastsWith_80 ?_
      rw [show (79 : Int).toNat = 79 from rfl]
      refine x_gV ?_
      intro V118 hV118
      have hI118 : MI G V118 := hI110c.up hV118 (rgN_81 (Or.inl rfl) (by decide)) (by omega) rfl (Or.inr (by decide))
      have hB118 := hB110.up hV118 (by rw [mkey_r (by decide)]; rfl)
      replace hF := hF.to (rdb_e (z := V118) hV118.symm)
      refine x_iload_n C.1 dX12_lastsWith_81 0 rfl ?_
      refine x_iconst C.1 (n := 1) dX12_lastsWith_82 ?_
      refine x_iadd C.1 (v := z90 + 1) (by omega) dX12_lastsWith_83 ?_
      refine x_istore_n C.1 (lv' := [(3, vI (z90 + 1)), (0, .ref (ad 0)), (1, vI x1), (2, vI x2)]) dX12_lastsWith_84 (by decide) rfl ?_
      refine x_goto C.1 (tgt := 42) dX12_lastsWith_85 (by decide) ?_
      have hmu91 : (61 - (z90 + 1)).toNat < (61 - z90).toNat := (by omega)
      exact ih91 (z90 + 1, V118) ⟨⟨by omega, by omega⟩, hI118, hB118, (fun k hk => (congrFun (congrFun hV118 2) k).trans ((up2_n _ _ (Or.inl (by decide))).trans ((hI110.2 2 k (Or.inl rfl)).trans (hrow k hk)))), ⟨by rw [show 12 + x1.toNat = (x1 + 12).toNat by omega, ((congrFun (congrFun hV118 1) ((x1 + 12).toNat)).trans ((up2_n _ _ (Or.inr (by omega))).trans ez114))]; omega, by rw [show 16 + x1.toNat = (x1 + 16).toNat by omega, ((congrFun (congrFun hV118 1) ((x1 + 16).toNat)).trans ((up2_n _ _ (Or.inr (by omega))).trans ez115))]; omega⟩, ⟨nf91, Nat.lt_of_lt_of_le hmu91 (Nat.le_of_lt_succ hn91), hF⟩⟩ hmu91
    · replace hF := hF.to (if_neg (fun hh => hh hc112))
      refine x_goto C.1 (tgt := 88) dX12_lastsWith_62 (by decide) ?_
      refine x_aload_n C.1 dX12_lastsWith_88 1 rfl ?_
      refine x_getA C (N := 33) (i := 0) (by decide) rfl vc_X12 wx_X12 1 (by decide) wf_X12_13 (a := 2) rfl dX12_lastsWith_89 ?_
      refine x_aload_n C.1 dX12_lastsWith_92 1 rfl ?_
      refine x_getA C (N := 33) (i := 0) (by decide) rfl vc_X12 wx_X12 0 (by decide) wf_X12_7 (a := 1) rfl dX12_lastsWith_93 ?_
      refine x_callSv C (As := [.ref (ad 2), .ref (ad 1)]) (rest := []) (c_copies l D cy ad V110 J Rr hI110c.vr hJ 2 1 (by decide) (by decide) rfl rfl (by decide)) (l1 := []) (l2 := []) (List.append_nil _).symm (w2 := fun u : xS => MW cy ad u.1 u.2.1 u.2.2) (fun _ => List.append_nil _) rfl wm_yX12_copies wn_X12 wl_X12_294 wi_yX12_copies hd_yX12_copies rfl ⟨Nat.le_of_ble_eq_true rfl, Nat.le_of_ble_eq_true rfl⟩ (Nat.le_of_ble_eq_true rfl) ⟨Nat.le_of_ble_eq_true rfl, Nat.le_of_ble_eq_true rfl⟩ dX12_lastsWith_96 (fun u119 h119 => ?_)
      subst h119
      dsimp only
      refine x_gV ?_
      intro V119 hV119
      have hI119 : MI G V119 := MI.cp hI110c hV119 (by decide) (by decide)
      have hB119 := hB110.cp hV119 (fun _ => by rw [mkey_r (by decide)]; rfl)
      replace hF := hF.to (rdb_e (z := V119) hV119.symm)
      refine x_iload_n C.1 dX12_lastsWith_99 0 rfl ?_
      exact x_iret (S := (Nat → Nat → Int)) (post := (fun a (u : Nat → Nat → Int) => MI G u ∧ (∀ k : Nat, k < 81 → u 1 k = V 1 k) ∧ FBm 7253665598152217305546752 V u ∧ (f_m_lastsWith x1 x2 V J Rr) (a, u))) (w1 := (fun u : Nat → Nat → Int => MW cy ad u J Rr)) (a := z90) C hr rfl dX12_lastsWith_100 (by omega) V119 rfl ⟨hI119, (fun k hk => (congrFun (congrFun hV119 1) k).trans ((cpN_at hk).trans ((hI110.2 2 k (Or.inl rfl)).trans (hrow k hk)))), hB119, hF _ rfl⟩
theorem hd_yX12_lastsWith : yX12_lastsWith.cls ≠ "java/lang/invoke/MethodHandle" ∧ yX12_lastsWith.cls ≠ "java/lang/invoke/VarHandle" ∧ (parseMethodDescriptor yX12_lastsWith.desc).map (fun d => d.parameters.length) = some 2 := by decide +kernel
theorem dX12_lasts_0 : decode cX12_lasts 0 = .ok (.aload_n 0, 1) := by decide +kernel
theorem dX12_lasts_1 : decode cX12_lasts 1 = .ok (.iload_n 1, 1) := by decide +kernel
theorem dX12_lasts_2 : decode cX12_lasts 2 = .ok (.invokevirtual 130, 3) := by decide +kernel
theorem dX12_lasts_5 : decode cX12_lasts 5 = .ok (.ifCond .eq 13, 3) := by decide +kernel
theorem dX12_lasts_8 : decode cX12_lasts 8 = .ok (.iload_n 2, 1) := by decide +kernel
theorem dX12_lasts_9 : decode cX12_lasts 9 = .ok (.iconst 0, 1) := by decide +kernel
theorem dX12_lasts_10 : decode cX12_lasts 10 = .ok (.bipush 24, 2) := by decide +kernel
theorem dX12_lasts_12 : decode cX12_lasts 12 = .ok (.invokestatic 126, 3) := by decide +kernel
theorem dX12_lasts_15 : decode cX12_lasts 15 = .ok (.ifCond .ne 5, 3) := by decide +kernel
theorem dX12_lasts_18 : decode cX12_lasts 18 = .ok (.iconst (-1), 1) := by decide +kernel
theorem dX12_lasts_19 : decode cX12_lasts 19 = .ok (.ireturn, 1) := by decide +kernel
theorem dX12_lasts_20 : decode cX12_lasts 20 = .ok (.aload_n 0, 1) := by decide +kernel
theorem dX12_lasts_21 : decode cX12_lasts 21 = .ok (.iload_n 1, 1) := by decide +kernel
theorem dX12_lasts_22 : decode cX12_lasts 22 = .ok (.iload_n 2, 1) := by decide +kernel
theorem dX12_lasts_23 : decode cX12_lasts 23 = .ok (.invokevirtual 353, 3) := by decide +kernel
theorem dX12_lasts_26 : decode cX12_lasts 26 = .ok (.ireturn, 1) := by decide +kernel
set_option maxRecDepth 100000 in
def f_m_lasts (x1 : Int) (x2 : Int) (V : Nat → Nat → Int) (J : Nat → Nat → Int) (Rr : Nat → Nat → Nat) : (Int × (Nat → Nat → Int)) → Prop :=
  calR (f_m_lives x1 V J Rr) fun z1 => fct (0 ≤ z1 ∧ z1 ≤ 1) <| (if z1 = 0 then rtn ((-1), V) else rdb (V 1 ((x1 + 12).toNat)) fun z4 => fct (0 ≤ z4 ∧ z4 ≤ 8) <| rdb (V 1 ((x1 + 16).toNat)) fun z5 => fct (0 ≤ z5 ∧ z5 ≤ 8) <| calR (f_m_in x2 0 24) fun z6 => fct (0 ≤ z6 ∧ z6 ≤ 1) <| (if ¬ z6 = 0 then calVM 7253665598152217305546752 V (f_m_lastsWith x1 x2 V J Rr) fun z9 V9 => rtn (z9, V9) else rtn ((-1), V)))
set_option maxHeartbeats 8000000 in
set_option maxRecDepth 100000 in
theorem m_lasts (l : Launch) (D : va_G) (cy : Nat → ClassId) (ad : Nat → Nat) (G : Nat → Nat → Int) (V J : Nat → Nat → Int) (Rr : Nat → Nat → Nat) (hI : MI G V) (hJ : VJ J) (hR : MR Rr) (x1 : Int) (bx1 : -2147483648 ≤ x1 ∧ x1 ≤ 2147483647) (x2 : Int) (bx2 : -2147483648 ≤ x2 ∧ x2 ≤ 2147483647) (hW : WP G) : xMi l D (xTY cy) yX12_lasts cX12_lasts 3 (some .int) 5 122 0 0 [.ref (ad 0), vI x1, vI x2] (MW cy ad V J Rr) (fun u : Nat → Nat → Int => MW cy ad u J Rr) (fun a (u : Nat → Nat → Int) => MI G u ∧ FBm 7253665598152217305546752 V u ∧ (f_m_lasts x1 x2 V J Rr) (a, u)) := by
  refine xMi.mk (lv0 := [(0, .ref (ad 0)), (1, vI x1), (2, vI x2)]) (by decide) rfl (Nat.le_of_ble_eq_true rfl) (fun p e s m below meth c A C hr hnm hAe => ?_)
  have C : xC2 p s m _ meth c D A s.heap 3 cX12_lasts RX12 (xTY cy) := C
  have hB : FBm 7253665598152217305546752 V V := FBm.rf _ _
  have hF := Imp.of_eq (f_m_lasts.eq_def x1 x2 V J Rr)
  refine x_aload_n C.1 dX12_lasts_0 0 rfl ?_
  refine x_iload_n C.1 dX12_lasts_1 1 rfl ?_
  refine x_callVi C (As := [vI x1]) (rest := []) 0 (xw_at (N := 33) (i := 0) (by decide) rfl) vc_X12 (m_lives l D cy ad G V J Rr hI hJ hR x1 ⟨by omega, by omega⟩) (l1 := []) (l2 := []) (List.append_nil _).symm (w2 := fun _ => MW cy ad V J Rr) (fun _ => List.append_nil _) rfl wm_yX12_lives wn_X12 wl_X12_130 wi_yX12_lives we_yX12_lives hd_yX12_lives rfl ⟨Nat.le_of_ble_eq_true rfl, Nat.le_of_ble_eq_true rfl⟩ (Nat.le_of_ble_eq_true rfl) ⟨Nat.le_of_ble_eq_true rfl, Nat.le_of_ble_eq_true rfl⟩ dX12_lasts_2 (fun z1 u1 bz1 h1 => ?_)
  obtain ⟨bq1, hx1_0, hFc1⟩ := h1
  replace hF := calR_i hF hFc1
  replace hF := hF.fc bq1
  refine x_if_eq C.1 (tgt := 18) dX12_lasts_5 (by decide) (by omega) (fun hc2 => ?_) (fun hc2 => ?_)
  · replace hF := hF.to (if_pos hc2)
    refine x_iconst C.1 (n := -1) dX12_lasts_18 ?_
    exact x_iret (S := (Nat → Nat → Int)) (post := (fun a (u : Nat → Nat → Int) => MI G u ∧ FBm 7253665598152217305546752 V u ∧ (f_m_lasts x1 x2 V J Rr) (a, u))) (w1 := (fun u : Nat → Nat → Int => MW cy ad u J Rr)) (a := (-1)) C hr rfl dX12_lasts_19 (by decide) V rfl ⟨hI, hB, hF _ rfl⟩
  · replace hF := hF.to (if_neg hc2)
    have hon3 := Sp.on hx1_0 (by omega)
    obtain ⟨z4, ez4, bz4⟩ := hI.rd 1 ((x1 + 12).toNat) (x := 0) (y := 9) (rgN_20 (Or.inl rfl) (by omega))
    have by4 : z4 ≤ 8 := by rw [← ez4, show (x1 + 12).toNat = 12 + x1.toNat by omega]; exact hon3.2.1
    replace hF := hF.to (rdb_e (z := z4) ez4)
    replace hF := hF.fc ⟨bz4.1, by4⟩
    obtain ⟨z5, ez5, bz5⟩ := hI.rd 1 ((x1 + 16).toNat) (x := 0) (y := 9) (rgN_20 (Or.inl rfl) (by omega))
    have by5 : z5 ≤ 8 := by rw [← ez5, show (x1 + 16).toNat = 16 + x1.toNat by omega]; exact hon3.2.2
    replace hF := hF.to (rdb_e (z := z5) ez5)
    replace hF := hF.fc ⟨bz5.1, by5⟩
    refine x_iload_n C.1 dX12_lasts_8 2 rfl ?_
    refine x_iconst C.1 (n := 0) dX12_lasts_9 ?_
    refine x_bipush C.1 (n := 24) dX12_lasts_10 ?_
    refine x_callSi C (As := [vI x2, vI 0, vI 24]) (rest := []) (m_in l D cy x2 ⟨by omega, by omega⟩ 0 ⟨by decide, by decide⟩ 24 ⟨by decide, by decide⟩) (l1 := []) (l2 := _) rfl (w2 := fun _ => _) (fun _ => rfl) rfl wm_yX12_in wn_X12 wl_X12_126 wi_yX12_in hd_yX12_in rfl ⟨Nat.le_of_ble_eq_true rfl, Nat.le_of_ble_eq_true rfl⟩ (Nat.le_of_ble_eq_true rfl) ⟨Nat.le_of_ble_eq_true rfl, Nat.le_of_ble_eq_true rfl⟩ dX12_lasts_12 (fun z6 u6 bz6 h6 => ?_)
    obtain ⟨bq6, hx6_0, hFc6⟩ := h6
    replace hF := calR_i hF hFc6
    replace hF := hF.fc bq6
    refine x_if_ne C.1 (tgt := 20) dX12_lasts_15 (by decide) (by omega) (fun hc7 => ?_) (fun hc7 => ?_)
    · replace hF := hF.to (if_pos hc7)
      have hon8 := Sq.on hx6_0 (by omega)
      refine x_aload_n C.1 dX12_lasts_20 0 rfl ?_
      refine x_iload_n C.1 dX12_lasts_21 1 rfl ?_
      refine x_iload_n C.1 dX12_lasts_22 2 rfl ?_
      refine x_callVi C (As := [vI x1, vI x2]) (rest := []) 0 (xw_at (N := 33) (i := 0) (by decide) rfl) vc_X12 (m_lastsWith l D cy ad G V J Rr hI hJ hR x1 ⟨by omega, by omega⟩ x2 ⟨by omega, by omega⟩ hW ⟨by rw [show 12 + x1.toNat = (x1 + 12).toNat by omega, ez4]; omega, by rw [show 16 + x1.toNat = (x1 + 16).toNat by omega, ez5]; omega⟩) (l1 := []) (l2 := []) (List.append_nil _).symm (w2 := fun u : Nat → Nat → Int => MW cy ad u J Rr) (fun _ => List.append_nil _) rfl wm_yX12_lastsWith wn_X12 wl_X12_353 wi_yX12_lastsWith we_yX12_lastsWith hd_yX12_lastsWith rfl ⟨Nat.le_of_ble_eq_true rfl, Nat.le_of_ble_eq_true rfl⟩ (Nat.le_of_ble_eq_true rfl) ⟨Nat.le_of_ble_eq_true rfl, Nat.le_of_ble_eq_true rfl⟩ dX12_lasts_23 (fun z9 V9 bz9 h9 => ?_)
      obtain ⟨hI9, hx9_0, hBc9, hFc9⟩ := h9
      replace hF := calVM_i hF hFc9 hBc9
      have hB9 := hB.tr hBc9 (m := 7253665598152217305546752) rfl
      exact x_iret (S := (Nat → Nat → Int)) (post := (fun a (u : Nat → Nat → Int) => MI G u ∧ FBm 7253665598152217305546752 V u ∧ (f_m_lasts x1 x2 V J Rr) (a, u))) (w1 := (fun u : Nat → Nat → Int => MW cy ad u J Rr)) (a := z9) C hr rfl dX12_lasts_26 (by omega) V9 rfl ⟨hI9, hB9, hF _ rfl⟩
    · replace hF := hF.to (if_neg (fun hh => hh hc7))
      refine x_iconst C.1 (n := -1) dX12_lasts_18 ?_
      exact x_iret (S := (Nat → Nat → Int)) (post := (fun a (u : Nat → Nat → Int) => MI G u ∧ FBm 7253665598152217305546752 V u ∧ (f_m_lasts x1 x2 V J Rr) (a, u))) (w1 := (fun u : Nat → Nat → Int => MW cy ad u J Rr)) (a := (-1)) C hr rfl dX12_lasts_19 (by decide) V rfl ⟨hI, hB, hF _ rfl⟩
theorem dX12_needs_0 : decode cX12_needs 0 = .ok (.aload_n 0, 1) := by decide +kernel
theorem dX12_needs_1 : decode cX12_needs 1 = .ok (.iload_n 1, 1) := by decide +kernel
theorem dX12_needs_2 : decode cX12_needs 2 = .ok (.invokevirtual 130, 3) := by decide +kernel
theorem dX12_needs_5 : decode cX12_needs 5 = .ok (.ifCond .eq 13, 3) := by decide +kernel
theorem dX12_needs_8 : decode cX12_needs 8 = .ok (.iload_n 2, 1) := by decide +kernel
theorem dX12_needs_9 : decode cX12_needs 9 = .ok (.iconst 1, 1) := by decide +kernel
theorem dX12_needs_10 : decode cX12_needs 10 = .ok (.bipush 60, 2) := by decide +kernel
theorem dX12_needs_12 : decode cX12_needs 12 = .ok (.invokestatic 126, 3) := by decide +kernel
theorem dX12_needs_15 : decode cX12_needs 15 = .ok (.ifCond .ne 5, 3) := by decide +kernel
theorem dX12_needs_18 : decode cX12_needs 18 = .ok (.iconst (-1), 1) := by decide +kernel
theorem dX12_needs_19 : decode cX12_needs 19 = .ok (.ireturn, 1) := by decide +kernel
theorem dX12_needs_20 : decode cX12_needs 20 = .ok (.iconst 0, 1) := by decide +kernel
theorem dX12_needs_21 : decode cX12_needs 21 = .ok (.istore_n 3, 1) := by decide +kernel
theorem dX12_needs_22 : decode cX12_needs 22 = .ok (.iload_n 3, 1) := by decide +kernel
theorem dX12_needs_23 : decode cX12_needs 23 = .ok (.bipush 24, 2) := by decide +kernel
theorem dX12_needs_25 : decode cX12_needs 25 = .ok (.if_icmp .gt 21, 3) := by decide +kernel
theorem dX12_needs_28 : decode cX12_needs 28 = .ok (.aload_n 0, 1) := by decide +kernel
theorem dX12_needs_29 : decode cX12_needs 29 = .ok (.iload_n 1, 1) := by decide +kernel
theorem dX12_needs_30 : decode cX12_needs 30 = .ok (.iload_n 3, 1) := by decide +kernel
theorem dX12_needs_31 : decode cX12_needs 31 = .ok (.invokevirtual 353, 3) := by decide +kernel
theorem dX12_needs_34 : decode cX12_needs 34 = .ok (.iload_n 2, 1) := by decide +kernel
theorem dX12_needs_35 : decode cX12_needs 35 = .ok (.if_icmp .lt 5, 3) := by decide +kernel
theorem dX12_needs_38 : decode cX12_needs 38 = .ok (.iload_n 3, 1) := by decide +kernel
theorem dX12_needs_39 : decode cX12_needs 39 = .ok (.ireturn, 1) := by decide +kernel
theorem dX12_needs_40 : decode cX12_needs 40 = .ok (.iinc 3 1, 3) := by decide +kernel
theorem dX12_needs_43 : decode cX12_needs 43 = .ok (.goto (-21), 3) := by decide +kernel
theorem dX12_needs_46 : decode cX12_needs 46 = .ok (.bipush (-2), 2) := by decide +kernel
theorem dX12_needs_48 : decode cX12_needs 48 = .ok (.ireturn, 1) := by decide +kernel
set_option maxRecDepth 100000 in
def f_m_needs (x1 : Int) (x2 : Int) (V : Nat → Nat → Int) (J : Nat → Nat → Int) (Rr : Nat → Nat → Nat) : (Int × (Nat → Nat → Int)) → Prop :=
  calR (f_m_lives x1 V J Rr) fun z1 => fct (0 ≤ z1 ∧ z1 ≤ 1) <| (if z1 = 0 then rtn ((-1), V) else rdb (V 1 ((x1 + 12).toNat)) fun z4 => fct (0 ≤ z4 ∧ z4 ≤ 8) <| rdb (V 1 ((x1 + 16).toNat)) fun z5 => fct (0 ≤ z5 ∧ z5 ≤ 8) <| calR (f_m_in x2 1 60) fun z6 => fct (0 ≤ z6 ∧ z6 ≤ 1) <| (if ¬ z6 = 0 then lop2 (27) (fun rc41 (z40 : Int) (V41 : Nat → Nat → Int) => (if 24 < z40 then rtn ((-2), V41) else rdb (V41 1 ((x1 + 12).toNat)) fun z48 => fct (0 ≤ z48 ∧ z48 ≤ 8) <| rdb (V41 1 ((x1 + 16).toNat)) fun z49 => fct (0 ≤ z49 ∧ z49 ≤ 8) <| calVM 7253665598152217305546752 V41 (f_m_lastsWith x1 z40 V41 J Rr) fun z50 V50 => (if z50 < x2 then rc41 (z40 + 1) V50 else rtn (z40, V50)))) 0 V else rtn ((-1), V)))
set_option maxHeartbeats 8000000 in
set_option maxRecDepth 100000 in
theorem m_needs (l : Launch) (D : va_G) (cy : Nat → ClassId) (ad : Nat → Nat) (G : Nat → Nat → Int) (V J : Nat → Nat → Int) (Rr : Nat → Nat → Nat) (hI : MI G V) (hJ : VJ J) (hR : MR Rr) (x1 : Int) (bx1 : -2147483648 ≤ x1 ∧ x1 ≤ 2147483647) (x2 : Int) (bx2 : -2147483648 ≤ x2 ∧ x2 ≤ 2147483647) (hW : WP G) : xMi l D (xTY cy) yX12_needs cX12_needs 4 (some .int) 5 122 0 0 [.ref (ad 0), vI x1, vI x2] (MW cy ad V J Rr) (fun u : Nat → Nat → Int => MW cy ad u J Rr) (fun a (u : Nat → Nat → Int) => MI G u ∧ FBm 7253665598152217305546752 V u ∧ (f_m_needs x1 x2 V J Rr) (a, u)) := by
  refine xMi.mk (lv0 := [(0, .ref (ad 0)), (1, vI x1), (2, vI x2)]) (by decide) rfl (Nat.le_of_ble_eq_true rfl) (fun p e s m below meth c A C hr hnm hAe => ?_)
  have C : xC2 p s m _ meth c D A s.heap 4 cX12_needs RX12 (xTY cy) := C
  have hB : FBm 7253665598152217305546752 V V := FBm.rf _ _
  have hF := Imp.of_eq (f_m_needs.eq_def x1 x2 V J Rr)
  refine x_aload_n C.1 dX12_needs_0 0 rfl ?_
  refine x_iload_n C.1 dX12_needs_1 1 rfl ?_
  refine x_callVi C (As := [vI x1]) (rest := []) 0 (xw_at (N := 33) (i := 0) (by decide) rfl) vc_X12 (m_lives l D cy ad G V J Rr hI hJ hR x1 ⟨by omega, by omega⟩) (l1 := []) (l2 := []) (List.append_nil _).symm (w2 := fun _ => MW cy ad V J Rr) (fun _ => List.append_nil _) rfl wm_yX12_lives wn_X12 wl_X12_130 wi_yX12_lives we_yX12_lives hd_yX12_lives rfl ⟨Nat.le_of_ble_eq_true rfl, Nat.le_of_ble_eq_true rfl⟩ (Nat.le_of_ble_eq_true rfl) ⟨Nat.le_of_ble_eq_true rfl, Nat.le_of_ble_eq_true rfl⟩ dX12_needs_2 (fun z1 u1 bz1 h1 => ?_)
  obtain ⟨bq1, hx1_0, hFc1⟩ := h1
  replace hF := calR_i hF hFc1
  replace hF := hF.fc bq1
  refine x_if_eq C.1 (tgt := 18) dX12_needs_5 (by decide) (by omega) (fun hc2 => ?_) (fun hc2 => ?_)
  · replace hF := hF.to (if_pos hc2)
    refine x_iconst C.1 (n := -1) dX12_needs_18 ?_
    exact x_iret (S := (Nat → Nat → Int)) (post := (fun a (u : Nat → Nat → Int) => MI G u ∧ FBm 7253665598152217305546752 V u ∧ (f_m_needs x1 x2 V J Rr) (a, u))) (w1 := (fun u : Nat → Nat → Int => MW cy ad u J Rr)) (a := (-1)) C hr rfl dX12_needs_19 (by decide) V rfl ⟨hI, hB, hF _ rfl⟩
  · replace hF := hF.to (if_neg hc2)
    have hon3 := Sp.on hx1_0 (by omega)
    obtain ⟨z4, ez4, bz4⟩ := hI.rd 1 ((x1 + 12).toNat) (x := 0) (y := 9) (rgN_20 (Or.inl rfl) (by omega))
    have by4 : z4 ≤ 8 := by rw [← ez4, show (x1 + 12).toNat = 12 + x1.toNat by omega]; exact hon3.2.1
    replace hF := hF.to (rdb_e (z := z4) ez4)
    replace hF := hF.fc ⟨bz4.1, by4⟩
    obtain ⟨z5, ez5, bz5⟩ := hI.rd 1 ((x1 + 16).toNat) (x := 0) (y := 9) (rgN_20 (Or.inl rfl) (by omega))
    have by5 : z5 ≤ 8 := by rw [← ez5, show (x1 + 16).toNat = 16 + x1.toNat by omega]; exact hon3.2.2
    replace hF := hF.to (rdb_e (z := z5) ez5)
    replace hF := hF.fc ⟨bz5.1, by5⟩
    refine x_iload_n C.1 dX12_needs_8 2 rfl ?_
    refine x_iconst C.1 (n := 1) dX12_needs_9 ?_
    refine x_bipush C.1 (n := 60) dX12_needs_10 ?_
    refine x_callSi C (As := [vI x2, vI 1, vI 60]) (rest := []) (m_in l D cy x2 ⟨by omega, by omega⟩ 1 ⟨by decide, by decide⟩ 60 ⟨by decide, by decide⟩) (l1 := []) (l2 := _) rfl (w2 := fun _ => _) (fun _ => rfl) rfl wm_yX12_in wn_X12 wl_X12_126 wi_yX12_in hd_yX12_in rfl ⟨Nat.le_of_ble_eq_true rfl, Nat.le_of_ble_eq_true rfl⟩ (Nat.le_of_ble_eq_true rfl) ⟨Nat.le_of_ble_eq_true rfl, Nat.le_of_ble_eq_true rfl⟩ dX12_needs_12 (fun z6 u6 bz6 h6 => ?_)
    obtain ⟨bq6, hx6_0, hFc6⟩ := h6
    replace hF := calR_i hF hFc6
    replace hF := hF.fc bq6
    refine x_if_ne C.1 (tgt := 20) dX12_needs_15 (by decide) (by omega) (fun hc7 => ?_) (fun hc7 => ?_)
    · replace hF := hF.to (if_pos hc7)
      have hon8 := Sq.on hx6_0 (by omega)
      refine x_iconst C.1 (n := 0) dX12_needs_20 ?_
      refine x_istore_n C.1 (lv' := [(3, vI 0), (0, .ref (ad 0)), (1, vI x1), (2, vI x2)]) dX12_needs_21 (by decide) rfl ?_
      obtain ⟨bd41, hbd41, hF⟩ := lop2_ex hF
      refine x_loop (I := fun x : Int × (Nat → Nat → Int) => match x with | (z40, V41) => (0 ≤ z40 ∧ z40 ≤ 25) ∧ MI G V41 ∧ FBm 7253665598152217305546752 V V41 ∧ (V41 1 (12 + x1.toNat) ≤ 8 ∧ V41 1 (16 + x1.toNat) ≤ 8) ∧ (∃ nf : Nat, (26 - z40).toNat < nf ∧ Imp (lop2 nf bd41 z40 V41) (f_m_needs x1 x2 V J Rr))) (μ := fun x : Int × (Nat → Nat → Int) => match x with | (z40, V41) => (26 - z40).toNat) (wsf := fun x : Int × (Nat → Nat → Int) => match x with | (z40, V41) => MW cy ad V41 J Rr) (lvf := fun x : Int × (Nat → Nat → Int) => match x with | (z40, V41) => [(3, vI z40), (0, .ref (ad 0)), (1, vI x1), (2, vI x2)]) (fun x hI41x ih41 => ?_) (0, V) ⟨⟨by decide, by decide⟩, hI, hB, ⟨by rw [show 12 + x1.toNat = (x1 + 12).toNat by omega, ez4]; omega, by rw [show 16 + x1.toNat = (x1 + 16).toNat by omega, ez5]; omega⟩, ⟨_, (by omega), hF⟩⟩ rfl rfl
      obtain ⟨z40, V41⟩ := x
      obtain ⟨bz40, hI41, hB41, hal2, nf41, hn41, hF⟩ := hI41x
      try dsimp only
      obtain ⟨nf41, rfl⟩ : ∃ mm, nf41 = mm + 1 := ⟨nf41 - 1, (Nat.succ_pred_eq_of_pos (Nat.lt_of_le_of_lt (Nat.zero_le _) hn41)).symm⟩
      replace hF := hF.to (lop2_s hbd41)
      refine x_iload_n C.1 dX12_needs_22 0 rfl ?_
      refine x_bipush C.1 (n := 24) dX12_needs_23 ?_
      refine x_icmp_gt C.1 (tgt := 46) dX12_needs_25 (by decide) (by omega) (by decide) (fun hc47 => ?_) (fun hc47 => ?_)
      · replace hF := hF.to (if_pos hc47)
        refine x_bipush C.1 (n := -2) dX12_needs_46 ?_
        exact x_iret (S := (Nat → Nat → Int)) (post := (fun a (u : Nat → Nat → Int) => MI G u ∧ FBm 7253665598152217305546752 V u ∧ (f_m_needs x1 x2 V J Rr) (a, u))) (w1 := (fun u : Nat → Nat → Int => MW cy ad u J Rr)) (a := (-2)) C hr rfl dX12_needs_48 (by decide) V41 rfl ⟨hI41, hB41, hF _ rfl⟩
      · replace hF := hF.to (if_neg hc47)
        obtain ⟨z48, ez48, bz48⟩ := hI41.rd 1 ((x1 + 12).toNat) (x := 0) (y := 9) (rgN_20 (Or.inl rfl) (by omega))
        have by48 : z48 ≤ 8 := by rw [← ez48, show (x1 + 12).toNat = 12 + x1.toNat by omega]; exact hal2.1
        replace hF := hF.to (rdb_e (z := z48) ez48)
        replace hF := hF.fc ⟨bz48.1, by48⟩
        obtain ⟨z49, ez49, bz49⟩ := hI41.rd 1 ((x1 + 16).toNat) (x := 0) (y := 9) (rgN_20 (Or.inl rfl) (by omega))
        have by49 : z49 ≤ 8 := by rw [← ez49, show (x1 + 16).toNat = 16 + x1.toNat by omega]; exact hal2.2
        replace hF := hF.to (rdb_e (z := z49) ez49)
        replace hF := hF.fc ⟨bz49.1, by49⟩
        refine x_aload_n C.1 dX12_needs_28 1 rfl ?_
        refine x_iload_n C.1 dX12_needs_29 2 rfl ?_
        refine x_iload_n C.1 dX12_needs_30 0 rfl ?_
        refine x_callVi C (As := [vI x1, vI z40]) (rest := []) 0 (xw_at (N := 33) (i := 0) (by decide) rfl) vc_X12 (m_lastsWith l D cy ad G V41 J Rr hI41 hJ hR x1 ⟨by omega, by omega⟩ z40 ⟨by omega, by omega⟩ hW ⟨by rw [show 12 + x1.toNat = (x1 + 12).toNat by omega, ez48]; omega, by rw [show 16 + x1.toNat = (x1 + 16).toNat by omega, ez49]; omega⟩) (l1 := []) (l2 := []) (List.append_nil _).symm (w2 := fun u : Nat → Nat → Int => MW cy ad u J Rr) (fun _ => List.append_nil _) rfl wm_yX12_lastsWith wn_X12 wl_X12_353 wi_yX12_lastsWith we_yX12_lastsWith hd_yX12_lastsWith rfl ⟨Nat.le_of_ble_eq_true rfl, Nat.le_of_ble_eq_true rfl⟩ (Nat.le_of_ble_eq_true rfl) ⟨Nat.le_of_ble_eq_true rfl, Nat.le_of_ble_eq_true rfl⟩ dX12_needs_31 (fun z50 V50 bz50 h50 => ?_)
        obtain ⟨hI50, hx50_0, hBc50, hFc50⟩ := h50
        replace hF := calVM_i hF hFc50 hBc50
        have hB50 := hB41.tr hBc50 (m := 7253665598152217305546752) rfl
        refine x_iload_n C.1 dX12_needs_34 3 rfl ?_
        refine x_icmp_lt C.1 (tgt := 40) dX12_needs_35 (by decide) (by omega) (by omega) (fun hc51 => ?_) (fun hc51 => ?_)
        · replace hF := hF.to (if_pos hc51)
          refine x_iinc C.1 (v := z40 + 1) (lv' := [(3, vI (z40 + 1)), (0, .ref (ad 0)), (1, vI x1), (2, vI x2)]) (by omega) dX12_needs_40 0 rfl (by decide) rfl ?_
          refine x_goto C.1 (tgt := 22) dX12_needs_43 (by decide) ?_
          have hmu41 : (26 - (z40 + 1)).toNat < (26 - z40).toNat := (by omega)
          exact ih41 (z40 + 1, V50) ⟨⟨by omega, by omega⟩, hI50, hB50, ⟨by rw [show 12 + x1.toNat = (x1 + 12).toNat by omega, ((hx50_0 ((x1 + 12).toNat) (by omega)).trans ez48)]; omega, by rw [show 16 + x1.toNat = (x1 + 16).toNat by omega, ((hx50_0 ((x1 + 16).toNat) (by omega)).trans ez49)]; omega⟩, ⟨nf41, Nat.lt_of_lt_of_le hmu41 (Nat.le_of_lt_succ hn41), hF⟩⟩ hmu41
        · replace hF := hF.to (if_neg hc51)
          refine x_iload_n C.1 dX12_needs_38 0 rfl ?_
          exact x_iret (S := (Nat → Nat → Int)) (post := (fun a (u : Nat → Nat → Int) => MI G u ∧ FBm 7253665598152217305546752 V u ∧ (f_m_needs x1 x2 V J Rr) (a, u))) (w1 := (fun u : Nat → Nat → Int => MW cy ad u J Rr)) (a := z40) C hr rfl dX12_needs_39 (by omega) V50 rfl ⟨hI50, hB50, hF _ rfl⟩
    · replace hF := hF.to (if_neg (fun hh => hh hc7))
      refine x_iconst C.1 (n := -1) dX12_needs_18 ?_
      exact x_iret (S := (Nat → Nat → Int)) (post := (fun a (u : Nat → Nat → Int) => MI G u ∧ FBm 7253665598152217305546752 V u ∧ (f_m_needs x1 x2 V J Rr) (a, u))) (w1 := (fun u : Nat → Nat → Int => MW cy ad u J Rr)) (a := (-1)) C hr rfl dX12_needs_19 (by decide) V rfl ⟨hI, hB, hF _ rfl⟩
theorem hd_yX12_leastBy : yX12_leastBy.cls ≠ "java/lang/invoke/MethodHandle" ∧ yX12_leastBy.cls ≠ "java/lang/invoke/VarHandle" ∧ (parseMethodDescriptor yX12_leastBy.desc).map (fun d => d.parameters.length) = some 0 := by decide +kernel
theorem hd_yX12_mayBe : yX12_mayBe.cls ≠ "java/lang/invoke/MethodHandle" ∧ yX12_mayBe.cls ≠ "java/lang/invoke/VarHandle" ∧ (parseMethodDescriptor yX12_mayBe.desc).map (fun d => d.parameters.length) = some 1 := by decide +kernel
theorem dX12_laysSpread_0 : decode cX12_laysSpread 0 = .ok (.iconst (-1), 1) := by decide +kernel
theorem dX12_laysSpread_1 : decode cX12_laysSpread 1 = .ok (.istore_n 2, 1) := by decide +kernel
theorem dX12_laysSpread_2 : decode cX12_laysSpread 2 = .ok (.iconst 0, 1) := by decide +kernel
theorem dX12_laysSpread_3 : decode cX12_laysSpread 3 = .ok (.istore_n 3, 1) := by decide +kernel
theorem dX12_laysSpread_4 : decode cX12_laysSpread 4 = .ok (.iload_n 3, 1) := by decide +kernel
theorem dX12_laysSpread_5 : decode cX12_laysSpread 5 = .ok (.iconst 4, 1) := by decide +kernel
theorem dX12_laysSpread_6 : decode cX12_laysSpread 6 = .ok (.if_icmp .ge 56, 3) := by decide +kernel
theorem dX12_laysSpread_9 : decode cX12_laysSpread 9 = .ok (.iconst 0, 1) := by decide +kernel
theorem dX12_laysSpread_10 : decode cX12_laysSpread 10 = .ok (.istore 4, 2) := by decide +kernel
theorem dX12_laysSpread_12 : decode cX12_laysSpread 12 = .ok (.iload 4, 2) := by decide +kernel
theorem dX12_laysSpread_14 : decode cX12_laysSpread 14 = .ok (.bipush 24, 2) := by decide +kernel
theorem dX12_laysSpread_16 : decode cX12_laysSpread 16 = .ok (.if_icmp .gt 40, 3) := by decide +kernel
theorem dX12_laysSpread_19 : decode cX12_laysSpread 19 = .ok (.aload_n 0, 1) := by decide +kernel
theorem dX12_laysSpread_20 : decode cX12_laysSpread 20 = .ok (.getfield 87, 3) := by decide +kernel
theorem dX12_laysSpread_23 : decode cX12_laysSpread 23 = .ok (.bipush 25, 2) := by decide +kernel
theorem dX12_laysSpread_25 : decode cX12_laysSpread 25 = .ok (.iload_n 3, 1) := by decide +kernel
theorem dX12_laysSpread_26 : decode cX12_laysSpread 26 = .ok (.imul, 1) := by decide +kernel
theorem dX12_laysSpread_27 : decode cX12_laysSpread 27 = .ok (.iload 4, 2) := by decide +kernel
theorem dX12_laysSpread_29 : decode cX12_laysSpread 29 = .ok (.iadd, 1) := by decide +kernel
theorem dX12_laysSpread_30 : decode cX12_laysSpread 30 = .ok (.aload_n 0, 1) := by decide +kernel
theorem dX12_laysSpread_31 : decode cX12_laysSpread 31 = .ok (.iload_n 3, 1) := by decide +kernel
theorem dX12_laysSpread_32 : decode cX12_laysSpread 32 = .ok (.invokevirtual 130, 3) := by decide +kernel
theorem dX12_laysSpread_35 : decode cX12_laysSpread 35 = .ok (.ifCond .eq 13, 3) := by decide +kernel
theorem dX12_laysSpread_38 : decode cX12_laysSpread 38 = .ok (.aload_n 0, 1) := by decide +kernel
theorem dX12_laysSpread_39 : decode cX12_laysSpread 39 = .ok (.iload_n 3, 1) := by decide +kernel
theorem dX12_laysSpread_40 : decode cX12_laysSpread 40 = .ok (.iload 4, 2) := by decide +kernel
theorem dX12_laysSpread_42 : decode cX12_laysSpread 42 = .ok (.invokevirtual 353, 3) := by decide +kernel
theorem dX12_laysSpread_45 : decode cX12_laysSpread 45 = .ok (.goto 4, 3) := by decide +kernel
theorem dX12_laysSpread_48 : decode cX12_laysSpread 48 = .ok (.iconst 0, 1) := by decide +kernel
theorem dX12_laysSpread_49 : decode cX12_laysSpread 49 = .ok (.iastore, 1) := by decide +kernel
theorem dX12_laysSpread_50 : decode cX12_laysSpread 50 = .ok (.iinc 4 1, 3) := by decide +kernel
theorem dX12_laysSpread_53 : decode cX12_laysSpread 53 = .ok (.goto (-41), 3) := by decide +kernel
theorem dX12_laysSpread_56 : decode cX12_laysSpread 56 = .ok (.iinc 3 1, 3) := by decide +kernel
theorem dX12_laysSpread_59 : decode cX12_laysSpread 59 = .ok (.goto (-55), 3) := by decide +kernel
theorem dX12_laysSpread_62 : decode cX12_laysSpread 62 = .ok (.iconst 0, 1) := by decide +kernel
theorem dX12_laysSpread_63 : decode cX12_laysSpread 63 = .ok (.istore_n 3, 1) := by decide +kernel
theorem dX12_laysSpread_64 : decode cX12_laysSpread 64 = .ok (.iload_n 3, 1) := by decide +kernel
theorem dX12_laysSpread_65 : decode cX12_laysSpread 65 = .ok (.iload_n 1, 1) := by decide +kernel
theorem dX12_laysSpread_66 : decode cX12_laysSpread 66 = .ok (.if_icmp .gt 137, 3) := by decide +kernel
theorem dX12_laysSpread_69 : decode cX12_laysSpread 69 = .ok (.iconst 0, 1) := by decide +kernel
theorem dX12_laysSpread_70 : decode cX12_laysSpread 70 = .ok (.istore 4, 2) := by decide +kernel
theorem dX12_laysSpread_72 : decode cX12_laysSpread 72 = .ok (.iload_n 3, 1) := by decide +kernel
theorem dX12_laysSpread_73 : decode cX12_laysSpread 73 = .ok (.iload 4, 2) := by decide +kernel
theorem dX12_laysSpread_75 : decode cX12_laysSpread 75 = .ok (.iadd, 1) := by decide +kernel
theorem dX12_laysSpread_76 : decode cX12_laysSpread 76 = .ok (.iload_n 1, 1) := by decide +kernel
theorem dX12_laysSpread_77 : decode cX12_laysSpread 77 = .ok (.if_icmp .gt 120, 3) := by decide +kernel
theorem dX12_laysSpread_80 : decode cX12_laysSpread 80 = .ok (.iconst 0, 1) := by decide +kernel
theorem dX12_laysSpread_81 : decode cX12_laysSpread 81 = .ok (.istore 5, 2) := by decide +kernel
theorem dX12_laysSpread_83 : decode cX12_laysSpread 83 = .ok (.iload_n 3, 1) := by decide +kernel
theorem dX12_laysSpread_84 : decode cX12_laysSpread 84 = .ok (.iload 4, 2) := by decide +kernel
theorem dX12_laysSpread_86 : decode cX12_laysSpread 86 = .ok (.iadd, 1) := by decide +kernel
theorem dX12_laysSpread_87 : decode cX12_laysSpread 87 = .ok (.iload 5, 2) := by decide +kernel
theorem dX12_laysSpread_89 : decode cX12_laysSpread 89 = .ok (.iadd, 1) := by decide +kernel
theorem dX12_laysSpread_90 : decode cX12_laysSpread 90 = .ok (.iload_n 1, 1) := by decide +kernel
theorem dX12_laysSpread_91 : decode cX12_laysSpread 91 = .ok (.if_icmp .gt 100, 3) := by decide +kernel
theorem dX12_laysSpread_94 : decode cX12_laysSpread 94 = .ok (.aload_n 0, 1) := by decide +kernel
theorem dX12_laysSpread_95 : decode cX12_laysSpread 95 = .ok (.getfield 90, 3) := by decide +kernel
theorem dX12_laysSpread_98 : decode cX12_laysSpread 98 = .ok (.iconst 0, 1) := by decide +kernel
theorem dX12_laysSpread_99 : decode cX12_laysSpread 99 = .ok (.iload_n 3, 1) := by decide +kernel
theorem dX12_laysSpread_100 : decode cX12_laysSpread 100 = .ok (.iastore, 1) := by decide +kernel
theorem dX12_laysSpread_101 : decode cX12_laysSpread 101 = .ok (.aload_n 0, 1) := by decide +kernel
theorem dX12_laysSpread_102 : decode cX12_laysSpread 102 = .ok (.getfield 90, 3) := by decide +kernel
theorem dX12_laysSpread_105 : decode cX12_laysSpread 105 = .ok (.iconst 1, 1) := by decide +kernel
theorem dX12_laysSpread_106 : decode cX12_laysSpread 106 = .ok (.iload 4, 2) := by decide +kernel
theorem dX12_laysSpread_108 : decode cX12_laysSpread 108 = .ok (.iastore, 1) := by decide +kernel
theorem dX12_laysSpread_109 : decode cX12_laysSpread 109 = .ok (.aload_n 0, 1) := by decide +kernel
theorem dX12_laysSpread_110 : decode cX12_laysSpread 110 = .ok (.getfield 90, 3) := by decide +kernel
theorem dX12_laysSpread_113 : decode cX12_laysSpread 113 = .ok (.iconst 2, 1) := by decide +kernel
theorem dX12_laysSpread_114 : decode cX12_laysSpread 114 = .ok (.iload 5, 2) := by decide +kernel
theorem dX12_laysSpread_116 : decode cX12_laysSpread 116 = .ok (.iastore, 1) := by decide +kernel
theorem dX12_laysSpread_117 : decode cX12_laysSpread 117 = .ok (.aload_n 0, 1) := by decide +kernel
theorem dX12_laysSpread_118 : decode cX12_laysSpread 118 = .ok (.getfield 90, 3) := by decide +kernel
theorem dX12_laysSpread_121 : decode cX12_laysSpread 121 = .ok (.iconst 3, 1) := by decide +kernel
theorem dX12_laysSpread_122 : decode cX12_laysSpread 122 = .ok (.iload_n 1, 1) := by decide +kernel
theorem dX12_laysSpread_123 : decode cX12_laysSpread 123 = .ok (.iload_n 3, 1) := by decide +kernel
theorem dX12_laysSpread_124 : decode cX12_laysSpread 124 = .ok (.isub, 1) := by decide +kernel
theorem dX12_laysSpread_125 : decode cX12_laysSpread 125 = .ok (.iload 4, 2) := by decide +kernel
theorem dX12_laysSpread_127 : decode cX12_laysSpread 127 = .ok (.isub, 1) := by decide +kernel
theorem dX12_laysSpread_128 : decode cX12_laysSpread 128 = .ok (.iload 5, 2) := by decide +kernel
theorem dX12_laysSpread_130 : decode cX12_laysSpread 130 = .ok (.isub, 1) := by decide +kernel
theorem dX12_laysSpread_131 : decode cX12_laysSpread 131 = .ok (.iastore, 1) := by decide +kernel
theorem dX12_laysSpread_132 : decode cX12_laysSpread 132 = .ok (.aload_n 0, 1) := by decide +kernel
theorem dX12_laysSpread_133 : decode cX12_laysSpread 133 = .ok (.iload_n 1, 1) := by decide +kernel
theorem dX12_laysSpread_134 : decode cX12_laysSpread 134 = .ok (.invokevirtual 356, 3) := by decide +kernel
theorem dX12_laysSpread_137 : decode cX12_laysSpread 137 = .ok (.ifCond .eq 48, 3) := by decide +kernel
theorem dX12_laysSpread_140 : decode cX12_laysSpread 140 = .ok (.aload_n 0, 1) := by decide +kernel
theorem dX12_laysSpread_141 : decode cX12_laysSpread 141 = .ok (.invokevirtual 359, 3) := by decide +kernel
theorem dX12_laysSpread_144 : decode cX12_laysSpread 144 = .ok (.iload_n 2, 1) := by decide +kernel
theorem dX12_laysSpread_145 : decode cX12_laysSpread 145 = .ok (.if_icmp .gt 6, 3) := by decide +kernel
theorem dX12_laysSpread_148 : decode cX12_laysSpread 148 = .ok (.goto 37, 3) := by decide +kernel
theorem dX12_laysSpread_151 : decode cX12_laysSpread 151 = .ok (.aload_n 0, 1) := by decide +kernel
theorem dX12_laysSpread_152 : decode cX12_laysSpread 152 = .ok (.invokevirtual 359, 3) := by decide +kernel
theorem dX12_laysSpread_155 : decode cX12_laysSpread 155 = .ok (.istore_n 2, 1) := by decide +kernel
theorem dX12_laysSpread_156 : decode cX12_laysSpread 156 = .ok (.iconst 0, 1) := by decide +kernel
theorem dX12_laysSpread_157 : decode cX12_laysSpread 157 = .ok (.istore 6, 2) := by decide +kernel
theorem dX12_laysSpread_159 : decode cX12_laysSpread 159 = .ok (.iload 6, 2) := by decide +kernel
theorem dX12_laysSpread_161 : decode cX12_laysSpread 161 = .ok (.iconst 4, 1) := by decide +kernel
theorem dX12_laysSpread_162 : decode cX12_laysSpread 162 = .ok (.if_icmp .ge 23, 3) := by decide +kernel
theorem dX12_laysSpread_165 : decode cX12_laysSpread 165 = .ok (.aload_n 0, 1) := by decide +kernel
theorem dX12_laysSpread_166 : decode cX12_laysSpread 166 = .ok (.getfield 93, 3) := by decide +kernel
theorem dX12_laysSpread_169 : decode cX12_laysSpread 169 = .ok (.iload 6, 2) := by decide +kernel
theorem dX12_laysSpread_171 : decode cX12_laysSpread 171 = .ok (.aload_n 0, 1) := by decide +kernel
theorem dX12_laysSpread_172 : decode cX12_laysSpread 172 = .ok (.getfield 90, 3) := by decide +kernel
theorem dX12_laysSpread_175 : decode cX12_laysSpread 175 = .ok (.iload 6, 2) := by decide +kernel
theorem dX12_laysSpread_177 : decode cX12_laysSpread 177 = .ok (.iaload, 1) := by decide +kernel
theorem dX12_laysSpread_178 : decode cX12_laysSpread 178 = .ok (.iastore, 1) := by decide +kernel
theorem dX12_laysSpread_179 : decode cX12_laysSpread 179 = .ok (.iinc 6 1, 3) := by decide +kernel
theorem dX12_laysSpread_182 : decode cX12_laysSpread 182 = .ok (.goto (-23), 3) := by decide +kernel
theorem dX12_laysSpread_185 : decode cX12_laysSpread 185 = .ok (.iinc 5 1, 3) := by decide +kernel
theorem dX12_laysSpread_188 : decode cX12_laysSpread 188 = .ok (.goto (-105), 3) := by decide +kernel
theorem dX12_laysSpread_191 : decode cX12_laysSpread 191 = .ok (.iinc 4 1, 3) := by decide +kernel
theorem dX12_laysSpread_194 : decode cX12_laysSpread 194 = .ok (.goto (-122), 3) := by decide +kernel
theorem dX12_laysSpread_197 : decode cX12_laysSpread 197 = .ok (.iinc 3 1, 3) := by decide +kernel
theorem dX12_laysSpread_200 : decode cX12_laysSpread 200 = .ok (.goto (-136), 3) := by decide +kernel
theorem dX12_laysSpread_203 : decode cX12_laysSpread 203 = .ok (.iload_n 2, 1) := by decide +kernel
theorem dX12_laysSpread_204 : decode cX12_laysSpread 204 = .ok (.ireturn, 1) := by decide +kernel
set_option maxRecDepth 100000 in
def f_m_laysSpread (x1 : Int) (V : Nat → Nat → Int) (J : Nat → Nat → Int) (Rr : Nat → Nat → Nat) : (Int × (Nat → Nat → Int)) → Prop :=
  lop2 (6) (fun rc107581 (z107580 : Int) (V107581 : Nat → Nat → Int) => (if 4 ≤ z107580 then lop3 (27) (fun rc200882 (z200880 : Int) (z200881 : Int) (V200882 : Nat → Nat → Int) => (if x1 < z200880 then rtn (z200881, V200882) else lop3 (27) (fun rc211658 (z211656 : Int) (z211657 : Int) (V211658 : Nat → Nat → Int) => (if x1 < z200880 + z211656 then rc200882 (z200880 + 1) z211657 V211658 else lop3 (27) (fun rc214082 (z214080 : Int) (z214081 : Int) (V214082 : Nat → Nat → Int) => (if x1 < z200880 + z211656 + z214080 then rc211658 (z211656 + 1) z214081 V214082 else rdb (up2 V214082 27 0 z200880) fun V214283 => rdb (up2 V214283 27 1 z211656) fun V214284 => rdb (up2 V214284 27 2 z214080) fun V214285 => rdb (up2 V214285 27 3 (x1 - z200880 - z211656 - z214080)) fun V214286 => calR (f_m_mayBe x1 V214286 J Rr) fun z214287 => fct (0 ≤ z214287 ∧ z214287 ≤ 1) <| jnk (fun (z214317 : Int) (V214318 : Nat → Nat → Int) => rc214082 (z214080 + 1) z214317 V214318) fun jf214318 => (if z214287 = 0 then jf214318 z214081 V214286 else calR (f_m_leastBy V214286 J Rr) fun z214320 => (if z214081 < z214320 then calR (f_m_leastBy V214286 J Rr) fun z214322 => lop2 (6) (fun rc214342 (z214341 : Int) (V214342 : Nat → Nat → Int) => (if 4 ≤ z214341 then jf214318 z214322 V214342 else rdb (V214342 27 z214341.toNat) fun z214347 => fct (0 ≤ z214347 ∧ z214347 ≤ 24) <| rdb (up2 V214342 28 z214341.toNat z214347) fun V214348 => rc214342 (z214341 + 1) V214348)) 0 V214286 else jf214318 z214081 V214286)))) 0 z211657 V211658)) 0 z200881 V200882)) 0 ((-1)) V107581 else lop2 (27) (fun rc214461 (z214460 : Int) (V214461 : Nat → Nat → Int) => (if 24 < z214460 then rc107581 (z107580 + 1) V214461 else calR (f_m_lives z107580 V214461 J Rr) fun z214503 => fct (0 ≤ z214503 ∧ z214503 ≤ 1) <| jnk (fun (z214508 : Int) (V214509 : Nat → Nat → Int) => rdb (up2 V214509 26 ((25 * z107580 + z214460).toNat) z214508) fun V214510 => rc214461 (z214460 + 1) V214510) fun jf214509 => (if z214503 = 0 then jf214509 0 V214461 else rdb (V214461 1 ((z107580 + 12).toNat)) fun z214513 => fct (0 ≤ z214513 ∧ z214513 ≤ 8) <| rdb (V214461 1 ((z107580 + 16).toNat)) fun z214514 => fct (0 ≤ z214514 ∧ z214514 ≤ 8) <| calVM 7253665598152217305546752 V214461 (f_m_lastsWith z107580 z214460 V214461 J Rr) fun z214515 V214515 => jf214509 z214515 V214515))) 0 V107581)) 0 V
set_option maxHeartbeats 8000000 in
set_option maxRecDepth 100000 in
theorem m_laysSpread (l : Launch) (D : va_G) (cy : Nat → ClassId) (ad : Nat → Nat) (G : Nat → Nat → Int) (V J : Nat → Nat → Int) (Rr : Nat → Nat → Nat) (hI : MI G V) (hJ : VJ J) (hR : MR Rr) (x1 : Int) (bx1 : 0 ≤ x1 ∧ x1 ≤ 24) (hW : WP G) : xMi l D (xTY cy) yX12_laysSpread cX12_laysSpread 7 (some .int) 5 122 0 0 [.ref (ad 0), vI x1] (MW cy ad V J Rr) (fun u : Nat → Nat → Int => MW cy ad u J Rr) (fun a (u : Nat → Nat → Int) => MI G u ∧ FBm 8672833940595814141599416320 V u ∧ (f_m_laysSpread x1 V J Rr) (a, u)) := by
  refine xMi.mk (lv0 := [(0, .ref (ad 0)), (1, vI x1)]) (by decide) rfl (Nat.le_of_ble_eq_true rfl) (fun p e s m below meth c A C hr hnm hAe => ?_)
  have C : xC2 p s m _ meth c D A s.heap 7 cX12_laysSpread RX12 (xTY cy) := C
  have hB : FBm 8672833940595814141599416320 V V := FBm.rf _ _
  have hF := Imp.of_eq (f_m_laysSpread.eq_def x1 V J Rr)
  refine x_iconst C.1 (n := -1) dX12_laysSpread_0 ?_
  refine x_istore_n C.1 (lv' := [(2, vI (-1)), (0, .ref (ad 0)), (1, vI x1)]) dX12_laysSpread_1 (by decide) rfl ?_
  refine x_iconst C.1 (n := 0) dX12_laysSpread_2 ?_
  refine x_istore_n C.1 (lv' := [(3, vI 0), (2, vI (-1)), (0, .ref (ad 0)), (1, vI x1)]) dX12_laysSpread_3 (by decide) rfl ?_
  obtain ⟨bd107581, hbd107581, hF⟩ := lop2_ex hF
  refine x_loop (I := fun x : Int × (Nat → Nat → Int) => match x with | (z107580, V107581) => (0 ≤ z107580 ∧ z107580 ≤ 4) ∧ MI G V107581 ∧ FBm 8672833940595814141599416320 V V107581 ∧ (∃ nf : Nat, (5 - z107580).toNat < nf ∧ Imp (lop2 nf bd107581 z107580 V107581) (f_m_laysSpread x1 V J Rr))) (μ := fun x : Int × (Nat → Nat → Int) => match x with | (z107580, V107581) => (5 - z107580).toNat) (wsf := fun x : Int × (Nat → Nat → Int) => match x with | (z107580, V107581) => MW cy ad V107581 J Rr) (lvf := fun x : Int × (Nat → Nat → Int) => match x with | (z107580, V107581) => [(3, vI z107580), (2, vI (-1)), (0, .ref (ad 0)), (1, vI x1)]) (fun x hI107581x ih107581 => ?_) (0, V) ⟨⟨by decide, by decide⟩, hI, hB, ⟨_, (by omega), hF⟩⟩ rfl rfl
  obtain ⟨z107580, V107581⟩ := x
  obtain ⟨bz107580, hI107581, hB107581, nf107581, hn107581, hF⟩ := hI107581x
  try dsimp only
  obtain ⟨nf107581, rfl⟩ : ∃ mm, nf107581 = mm + 1 := ⟨nf107581 - 1, (Nat.succ_pred_eq_of_pos (Nat.lt_of_le_of_lt (Nat.zero_le _) hn107581)).symm⟩
  replace hF := hF.to (lop2_s hbd107581)
  refine x_iload_n C.1 dX12_laysSpread_4 0 rfl ?_
  refine x_iconst C.1 (n := 4) dX12_laysSpread_5 ?_
  refine x_icmp_ge C.1 (tgt := 62) dX12_laysSpread_6 (by decide) (by omega) (by decide) (fun hc161216 => ?_) (fun hc161216 => ?_)
  · replace hF := hF.to (if_pos hc161216)
    refine x_iconst C.1 (n := 0) dX12_laysSpread_62 ?_
    refine x_istore_n C.1 (lv' := [(3, vI 0), (2, vI (-1)), (0, .ref (ad 0)), (1, vI x1)]) dX12_laysSpread_63 (by decide) rfl ?_
    obtain ⟨bd200882, hbd200882, hF⟩ := lop3_ex hF
    refine x_loop (I := fun x : Int × Int × (Nat → Nat → Int) => match x with | (z200880, z200881, V200882) => (0 ≤ z200880 ∧ z200880 ≤ 25) ∧ (-2147483648 ≤ z200881 ∧ z200881 ≤ 2147483647) ∧ MI G V200882 ∧ FBm 8672833940595814141599416320 V V200882 ∧ (∃ nf : Nat, (26 - z200880).toNat < nf ∧ Imp (lop3 nf bd200882 z200880 z200881 V200882) (f_m_laysSpread x1 V J Rr))) (μ := fun x : Int × Int × (Nat → Nat → Int) => match x with | (z200880, z200881, V200882) => (26 - z200880).toNat) (wsf := fun x : Int × Int × (Nat → Nat → Int) => match x with | (z200880, z200881, V200882) => MW cy ad V200882 J Rr) (lvf := fun x : Int × Int × (Nat → Nat → Int) => match x with | (z200880, z200881, V200882) => [(3, vI z200880), (2, vI z200881), (0, .ref (ad 0)), (1, vI x1)]) (fun x hI200882x ih200882 => ?_) (0, (-1), V107581) ⟨⟨by decide, by decide⟩, ⟨by decide, by decide⟩, hI107581, hB107581, ⟨_, (by omega), hF⟩⟩ rfl rfl
    obtain ⟨z200880, z200881, V200882⟩ := x
    obtain ⟨bz200880, bz200881, hI200882, hB200882, nf200882, hn200882, hF⟩ := hI200882x
    try dsimp only
    obtain ⟨nf200882, rfl⟩ : ∃ mm, nf200882 = mm + 1 := ⟨nf200882 - 1, (Nat.succ_pred_eq_of_pos (Nat.lt_of_le_of_lt (Nat.zero_le _) hn200882)).symm⟩
    replace hF := hF.to (lop3_s hbd200882)
    refine x_iload_n C.1 dX12_laysSpread_64 0 rfl ?_
    refine x_iload_n C.1 dX12_laysSpread_65 3 rfl ?_
    refine x_icmp_gt C.1 (tgt := 203) dX12_laysSpread_66 (by decide) (by omega) (by omega) (fun hc207616 => ?_) (fun hc207616 => ?_)
    · replace hF := hF.to (if_pos hc207616)
      refine x_iload_n C.1 dX12_laysSpread_203 1 rfl ?_
      exact x_iret (S := (Nat → Nat → Int)) (post := (fun a (u : Nat → Nat → Int) => MI G u ∧ FBm 8672833940595814141599416320 V u ∧ (f_m_laysSpread x1 V J Rr) (a, u))) (w1 := (fun u : Nat → Nat → Int => MW cy ad u J Rr)) (a := z200881) C hr rfl dX12_laysSpread_204 (by omega) V200882 rfl ⟨hI200882, hB200882, hF _ rfl⟩
    · replace hF := hF.to (if_neg hc207616)
      refine x_iconst C.1 (n := 0) dX12_laysSpread_69 ?_
      refine x_istore C.1 (lv' := [(4, vI 0), (3, vI z200880), (2, vI z200881), (0, .ref (ad 0)), (1, vI x1)]) dX12_laysSpread_70 (by decide) rfl ?_
      obtain ⟨bd211658, hbd211658, hF⟩ := lop3_ex hF
      refine x_loop (I := fun x : Int × Int × (Nat → Nat → Int) => match x with | (z211656, z211657, V211658) => (0 ≤ z211656 ∧ z211656 ≤ 25) ∧ (-2147483648 ≤ z211657 ∧ z211657 ≤ 2147483647) ∧ MI G V211658 ∧ FBm 8672833940595814141599416320 V V211658 ∧ (∃ nf : Nat, (26 - z211656).toNat < nf ∧ Imp (lop3 nf bd211658 z211656 z211657 V211658) (f_m_laysSpread x1 V J Rr))) (μ := fun x : Int × Int × (Nat → Nat → Int) => match x with | (z211656, z211657, V211658) => (26 - z211656).toNat) (wsf := fun x : Int × Int × (Nat → Nat → Int) => match x with | (z211656, z211657, V211658) => MW cy ad V211658 J Rr) (lvf := fun x : Int × Int × (Nat → Nat → Int) => match x with | (z211656, z211657, V211658) => [(4, vI z211656), (3, vI z200880), (2, vI z211657), (0, .ref (ad 0)), (1, vI x1)]) (fun x hI211658x ih211658 => ?_) (0, z200881, V200882) ⟨⟨by decide, by decide⟩, ⟨by omega, by omega⟩, hI200882, hB200882, ⟨_, (by omega), hF⟩⟩ rfl rfl
      obtain ⟨z211656, z211657, V211658⟩ := x
      obtain ⟨bz211656, bz211657, hI211658, hB211658, nf211658, hn211658, hF⟩ := hI211658x
      try dsimp only
      obtain ⟨nf211658, rfl⟩ : ∃ mm, nf211658 = mm + 1 := ⟨nf211658 - 1, (Nat.succ_pred_eq_of_pos (Nat.lt_of_le_of_lt (Nat.zero_le _) hn211658)).symm⟩
      replace hF := hF.to (lop3_s hbd211658)
      refine x_iload_n C.1 dX12_laysSpread_72 1 rfl ?_
      refine x_iload C.1 dX12_laysSpread_73 0 rfl ?_
      refine x_iadd C.1 (v := z200880 + z211656) (by omega) dX12_laysSpread_75 ?_
      refine x_iload_n C.1 dX12_laysSpread_76 4 rfl ?_
      refine x_icmp_gt C.1 (tgt := 197) dX12_laysSpread_77 (by decide) (by omega) (by omega) (fun hc213676 => ?_) (fun hc213676 => ?_)
      · replace hF := hF.to (if_pos hc213676)
        refine x_iinc C.1 (v := z200880 + 1) (lv' := [(3, vI (z200880 + 1)), (4, vI z211656), (2, vI z211657), (0, .ref (ad 0)), (1, vI x1)]) (by omega) dX12_laysSpread_197 1 rfl (by decide) rfl ?_
        refine x_goto C.1 (tgt := 64) dX12_laysSpread_200 (by decide) ?_
        refine x_lv [(3, vI (z200880 + 1)), (2, vI z211657), (0, .ref (ad 0)), (1, vI x1)] [0, 2, 3, 4] rfl ?_
        have hmu200882 : (26 - (z200880 + 1)).toNat < (26 - z200880).toNat := (by omega)
        exact ih200882 (z200880 + 1, z211657, V211658) ⟨⟨by omega, by omega⟩, ⟨by omega, by omega⟩, hI211658, hB211658, ⟨nf200882, Nat.lt_of_lt_of_le hmu200882 (Nat.le_of_lt_succ hn200882), hF⟩⟩ hmu200882
      · replace hF := hF.to (if_neg hc213676)
        refine x_iconst C.1 (n := 0) dX12_laysSpread_80 ?_
        refine x_istore C.1 (lv' := [(5, vI 0), (4, vI z211656), (3, vI z200880), (2, vI z211657), (0, .ref (ad 0)), (1, vI x1)]) dX12_laysSpread_81 (by decide) rfl ?_
        obtain ⟨bd214082, hbd214082, hF⟩ := lop3_ex hF
        refine x_loop (I := fun x : Int × Int × (Nat → Nat → Int) => match x with | (z214080, z214081, V214082) => (0 ≤ z214080 ∧ z214080 ≤ 25) ∧ (-2147483648 ≤ z214081 ∧ z214081 ≤ 2147483647) ∧ MI G V214082 ∧ FBm 8672833940595814141599416320 V V214082 ∧ (∃ nf : Nat, (26 - z214080).toNat < nf ∧ Imp (lop3 nf bd214082 z214080 z214081 V214082) (f_m_laysSpread x1 V J Rr))) (μ := fun x : Int × Int × (Nat → Nat → Int) => match x with | (z214080, z214081, V214082) => (26 - z214080).toNat) (wsf := fun x : Int × Int × (Nat → Nat → Int) => match x with | (z214080, z214081, V214082) => MW cy ad V214082 J Rr) (lvf := fun x : Int × Int × (Nat → Nat → Int) => match x with | (z214080, z214081, V214082) => [(5, vI z214080), (4, vI z211656), (3, vI z200880), (2, vI z214081), (0, .ref (ad 0)), (1, vI x1)]) (fun x hI214082x ih214082 => ?_) (0, z211657, V211658) ⟨⟨by decide, by decide⟩, ⟨by omega, by omega⟩, hI211658, hB211658, ⟨_, (by omega), hF⟩⟩ rfl rfl
        obtain ⟨z214080, z214081, V214082⟩ := x
        obtain ⟨bz214080, bz214081, hI214082, hB214082, nf214082, hn214082, hF⟩ := hI214082x
        try dsimp only
        obtain ⟨nf214082, rfl⟩ : ∃ mm, nf214082 = mm + 1 := ⟨nf214082 - 1, (Nat.succ_pred_eq_of_pos (Nat.lt_of_le_of_lt (Nat.zero_le _) hn214082)).symm⟩
        replace hF := hF.to (lop3_s hbd214082)
        refine x_iload_n C.1 dX12_laysSpread_83 2 rfl ?_
        refine x_iload C.1 dX12_laysSpread_84 1 rfl ?_
        refine x_iadd C.1 (v := z200880 + z211656) (by omega) dX12_laysSpread_86 ?_
        refine x_iload C.1 dX12_laysSpread_87 0 rfl ?_
        refine x_iadd C.1 (v := z200880 + z211656 + z214080) (by omega) dX12_laysSpread_89 ?_
        refine x_iload_n C.1 dX12_laysSpread_90 5 rfl ?_
        refine x_icmp_gt C.1 (tgt := 191) dX12_laysSpread_91 (by decide) (by omega) (by omega) (fun hc214282 => ?_) (fun hc214282 => ?_)
        · replace hF := hF.to (if_pos hc214282)
          refine x_iinc C.1 (v := z211656 + 1) (lv' := [(4, vI (z211656 + 1)), (5, vI z214080), (3, vI z200880), (2, vI z214081), (0, .ref (ad 0)), (1, vI x1)]) (by omega) dX12_laysSpread_191 1 rfl (by decide) rfl ?_
          refine x_goto C.1 (tgt := 72) dX12_laysSpread_194 (by decide) ?_
          refine x_lv [(4, vI (z211656 + 1)), (3, vI z200880), (2, vI z214081), (0, .ref (ad 0)), (1, vI x1)] [0, 2, 3, 4, 5] rfl ?_
          have hmu211658 : (26 - (z211656 + 1)).toNat < (26 - z211656).toNat := (by omega)
          exact ih211658 (z211656 + 1, z214081, V214082) ⟨⟨by omega, by omega⟩, ⟨by omega, by omega⟩, hI214082, hB214082, ⟨nf211658, Nat.lt_of_lt_of_le hmu211658 (Nat.le_of_lt_succ hn211658), hF⟩⟩ hmu211658
        · replace hF := hF.to (if_neg hc214282)
          refine x_aload_n C.1 dX12_laysSpread_94 4 rfl ?_
          refine x_getA C (N := 33) (i := 0) (by decide) rfl vc_X12 wx_X12 43 (by decide) wf_X12_90 (a := 27) rfl dX12_laysSpread_95 ?_
          refine x_iconst C.1 (n := 0) dX12_laysSpread_98 ?_
          refine x_iload_n C.1 dX12_laysSpread_99 2 rfl ?_
          refine x_iast C (N := 33) (i := 27) (q := 0) (a := z200880) (by decide) rfl (by decide) (by decide) dX12_laysSpread_100 ?_
          rw [show (0 : Int).toNat = 0 from rfl]
          refine x_gV ?_
          intro V214283 hV214283
          have hI214283 : MI G V214283 := hI214082.up hV214283 rfl (by omega) rfl (Or.inl (by decide))
          have hB214283 := hB214082.up hV214283 (by rw [mkey_r (by decide)]; rfl)
          replace hF := hF.to (rdb_e (z := V214283) hV214283.symm)
          refine x_aload_n C.1 dX12_laysSpread_101 4 rfl ?_
          refine x_getA C (N := 33) (i := 0) (by decide) rfl vc_X12 wx_X12 43 (by decide) wf_X12_90 (a := 27) rfl dX12_laysSpread_102 ?_
          refine x_iconst C.1 (n := 1) dX12_laysSpread_105 ?_
          refine x_iload C.1 dX12_laysSpread_106 1 rfl ?_
          refine x_iast C (N := 33) (i := 27) (q := 1) (a := z211656) (by decide) rfl (by decide) (by decide) dX12_laysSpread_108 ?_
          rw [show (1 : Int).toNat = 1 from rfl]
          refine x_gV ?_
          intro V214284 hV214284
          have hI214284 : MI G V214284 := hI214283.up hV214284 rfl (by omega) rfl (Or.inl (by decide))
          have hB214284 := hB214283.up hV214284 (by rw [mkey_r (by decide)]; rfl)
          replace hF := hF.to (rdb_e (z := V214284) hV214284.symm)
          refine x_aload_n C.1 dX12_laysSpread_109 4 rfl ?_
          refine x_getA C (N := 33) (i := 0) (by decide) rfl vc_X12 wx_X12 43 (by decide) wf_X12_90 (a := 27) rfl dX12_laysSpread_110 ?_
          refine x_iconst C.1 (n := 2) dX12_laysSpread_113 ?_
          refine x_iload C.1 dX12_laysSpread_114 0 rfl ?_
          refine x_iast C (N := 33) (i := 27) (q := 2) (a := z214080) (by decide) rfl (by decide) (by decide) dX12_laysSpread_116 ?_
          rw [show (2 : Int).toNat = 2 from rfl]
          refine x_gV ?_
          intro V214285 hV214285
          have hI214285 : MI G V214285 := hI214284.up hV214285 rfl (by omega) rfl (Or.inl (by decide))
          have hB214285 := hB214284.up hV214285 (by rw [mkey_r (by decide)]; rfl)
          replace hF := hF.to (rdb_e (z := V214285) hV214285.symm)
          refine x_aload_n C.1 dX12_laysSpread_117 4 rfl ?_
          refine x_getA C (N := 33) (i := 0) (by decide) rfl vc_X12 wx_X12 43 (by decide) wf_X12_90 (a := 27) rfl dX12_laysSpread_118 ?_
          refine x_iconst C.1 (n := 3) dX12_laysSpread_121 ?_
          refine x_iload_n C.1 dX12_laysSpread_122 5 rfl ?_
          refine x_iload_n C.1 dX12_laysSpread_123 2 rfl ?_
          refine x_isub C.1 (v := x1 - z200880) (by omega) dX12_laysSpread_124 ?_
          refine x_iload C.1 dX12_laysSpread_125 1 rfl ?_
          refine x_isub C.1 (v := x1 - z200880 - z211656) (by omega) dX12_laysSpread_127 ?_
          refine x_iload C.1 dX12_laysSpread_128 0 rfl ?_
          refine x_isub C.1 (v := x1 - z200880 - z211656 - z214080) (by omega) dX12_laysSpread_130 ?_
          refine x_iast C (N := 33) (i := 27) (q := 3) (a := x1 - z200880 - z211656 - z214080) (by decide) rfl (by decide) (by decide) dX12_laysSpread_131 ?_
          rw [show (3 : Int).toNat = 3 from rfl]
          refine x_gV ?_
          intro V214286 hV214286
          have hI214286 : MI G V214286 := hI214285.up hV214286 rfl (by omega) rfl (Or.inl (by decide))
          have hB214286 := hB214285.up hV214286 (by rw [mkey_r (by decide)]; rfl)
          replace hF := hF.to (rdb_e (z := V214286) hV214286.symm)
          refine x_aload_n C.1 dX12_laysSpread_132 4 rfl ?_
          refine x_iload_n C.1 dX12_laysSpread_133 5 rfl ?_
          refine x_callVi C (As := [vI x1]) (rest := []) 0 (xw_at (N := 33) (i := 0) (by decide) rfl) vc_X12 (m_mayBe l D cy ad G V214286 J Rr hI214286 hJ hR x1 ⟨by omega, by omega⟩) (l1 := []) (l2 := []) (List.append_nil _).symm (w2 := fun _ => MW cy ad V214286 J Rr) (fun _ => List.append_nil _) rfl wm_yX12_mayBe wn_X12 wl_X12_356 wi_yX12_mayBe we_yX12_mayBe hd_yX12_mayBe rfl ⟨Nat.le_of_ble_eq_true rfl, Nat.le_of_ble_eq_true rfl⟩ (Nat.le_of_ble_eq_true rfl) ⟨Nat.le_of_ble_eq_true rfl, Nat.le_of_ble_eq_true rfl⟩ dX12_laysSpread_134 (fun z214287 u214287 bz214287 h214287 => ?_)
          obtain ⟨bq214287, hFc214287⟩ := h214287
          replace hF := calR_i hF hFc214287
          replace hF := hF.fc bq214287
          obtain ⟨jf214318, hjf214318, hF⟩ := jn_ex hF
          refine x_join (I := fun x : Int × (Nat → Nat → Int) => match x with | (z214317, V214318) => (-2147483648 ≤ z214317 ∧ z214317 ≤ 2147483647) ∧ MI G V214318 ∧ FBm 8672833940595814141599416320 V V214318 ∧ Imp (jf214318 z214317 V214318) (f_m_laysSpread x1 V J Rr)) (wsf := fun x : Int × (Nat → Nat → Int) => match x with | (z214317, V214318) => MW cy ad V214318 J Rr) (lvf := fun x : Int × (Nat → Nat → Int) => match x with | (z214317, V214318) => [(5, vI z214080), (4, vI z211656), (3, vI z200880), (2, vI z214317), (0, .ref (ad 0)), (1, vI x1)]) (stf := fun x : Int × (Nat → Nat → Int) => match x with | (z214317, V214318) => []) 185 (fun x hI214318x => ?_) (fun jn214318 => ?_)
          · obtain ⟨z214317, V214318⟩ := x
            obtain ⟨bz214317, hI214318, hB214318, hF⟩ := hI214318x
            try dsimp only
            replace hF := hF.to (jn_s2 hjf214318)
            refine x_iinc C.1 (v := z214080 + 1) (lv' := [(5, vI (z214080 + 1)), (4, vI z211656), (3, vI z200880), (2, vI z214317), (0, .ref (ad 0)), (1, vI x1)]) (by omega) dX12_laysSpread_185 0 rfl (by decide) rfl ?_
            refine x_goto C.1 (tgt := 83) dX12_laysSpread_188 (by decide) ?_
            have hmu214082 : (26 - (z214080 + 1)).toNat < (26 - z214080).toNat := (by omega)
            exact ih214082 (z214080 + 1, z214317, V214318) ⟨⟨by omega, by omega⟩, ⟨by omega, by omega⟩, hI214318, hB214318, ⟨nf214082, Nat.lt_of_lt_of_le hmu214082 (Nat.le_of_lt_succ hn214082), hF⟩⟩ hmu214082
          · refine x_if_eq C.1 (tgt := 185) dX12_laysSpread_137 (by decide) (by omega) (fun hc214319 => ?_) (fun hc214319 => ?_)
            · replace hF := hF.to (if_pos hc214319)
              exact jn214318 (z214081, V214286) ⟨⟨by omega, by omega⟩, hI214286, hB214286, hF⟩
            · replace hF := hF.to (if_neg hc214319)
              refine x_aload_n C.1 dX12_laysSpread_140 4 rfl ?_
              refine x_callVi C (As := []) (rest := []) 0 (xw_at (N := 33) (i := 0) (by decide) rfl) vc_X12 (m_leastBy l D cy ad G V214286 J Rr hI214286 hJ hR ) (l1 := []) (l2 := []) (List.append_nil _).symm (w2 := fun _ => MW cy ad V214286 J Rr) (fun _ => List.append_nil _) rfl wm_yX12_leastBy wn_X12 wl_X12_359 wi_yX12_leastBy we_yX12_leastBy hd_yX12_leastBy rfl ⟨Nat.le_of_ble_eq_true rfl, Nat.le_of_ble_eq_true rfl⟩ (Nat.le_of_ble_eq_true rfl) ⟨Nat.le_of_ble_eq_true rfl, Nat.le_of_ble_eq_true rfl⟩ dX12_laysSpread_141 (fun z214320 u214320 bz214320 h214320 => ?_)
              have hFc214320 := h214320
              replace hF := calR_i hF hFc214320
              refine x_iload_n C.1 dX12_laysSpread_144 3 rfl ?_
              refine x_icmp_gt C.1 (tgt := 151) dX12_laysSpread_145 (by decide) (by omega) (by omega) (fun hc214321 => ?_) (fun hc214321 => ?_)
              · replace hF := hF.to (if_pos hc214321)
                refine x_aload_n C.1 dX12_laysSpread_151 4 rfl ?_
                refine x_callVi C (As := []) (rest := []) 0 (xw_at (N := 33) (i := 0) (by decide) rfl) vc_X12 (m_leastBy l D cy ad G V214286 J Rr hI214286 hJ hR ) (l1 := []) (l2 := []) (List.append_nil _).symm (w2 := fun _ => MW cy ad V214286 J Rr) (fun _ => List.append_nil _) rfl wm_yX12_leastBy wn_X12 wl_X12_359 wi_yX12_leastBy we_yX12_leastBy hd_yX12_leastBy rfl ⟨Nat.le_of_ble_eq_true rfl, Nat.le_of_ble_eq_true rfl⟩ (Nat.le_of_ble_eq_true rfl) ⟨Nat.le_of_ble_eq_true rfl, Nat.le_of_ble_eq_true rfl⟩ dX12_laysSpread_152 (fun z214322 u214322 bz214322 h214322 => ?_)
                have hFc214322 := h214322
                replace hF := calR_i hF hFc214322
                refine x_istore_n C.1 (lv' := [(2, vI z214322), (5, vI z214080), (4, vI z211656), (3, vI z200880), (0, .ref (ad 0)), (1, vI x1)]) dX12_laysSpread_155 (by decide) rfl ?_
                refine x_iconst C.1 (n := 0) dX12_laysSpread_156 ?_
                refine x_istore C.1 (lv' := [(6, vI 0), (2, vI z214322), (5, vI z214080), (4, vI z211656), (3, vI z200880), (0, .ref (ad 0)), (1, vI x1)]) dX12_laysSpread_157 (by decide) rfl ?_
                obtain ⟨bd214342, hbd214342, hF⟩ := lop2_ex hF
                refine x_loop (I := fun x : Int × (Nat → Nat → Int) => match x with | (z214341, V214342) => (0 ≤ z214341 ∧ z214341 ≤ 4) ∧ MI G V214342 ∧ FBm 8672833940595814141599416320 V V214342 ∧ (∃ nf : Nat, (5 - z214341).toNat < nf ∧ Imp (lop2 nf bd214342 z214341 V214342) (f_m_laysSpread x1 V J Rr))) (μ := fun x : Int × (Nat → Nat → Int) => match x with | (z214341, V214342) => (5 - z214341).toNat) (wsf := fun x : Int × (Nat → Nat → Int) => match x with | (z214341, V214342) => MW cy ad V214342 J Rr) (lvf := fun x : Int × (Nat → Nat → Int) => match x with | (z214341, V214342) => [(6, vI z214341), (2, vI z214322), (5, vI z214080), (4, vI z211656), (3, vI z200880), (0, .ref (ad 0)), (1, vI x1)]) (fun x hI214342x ih214342 => ?_) (0, V214286) ⟨⟨by decide, by decide⟩, hI214286, hB214286, ⟨_, (by omega), hF⟩⟩ rfl rfl
                obtain ⟨z214341, V214342⟩ := x
                obtain ⟨bz214341, hI214342, hB214342, nf214342, hn214342, hF⟩ := hI214342x
                try dsimp only
                obtain ⟨nf214342, rfl⟩ : ∃ mm, nf214342 = mm + 1 := ⟨nf214342 - 1, (Nat.succ_pred_eq_of_pos (Nat.lt_of_le_of_lt (Nat.zero_le _) hn214342)).symm⟩
                replace hF := hF.to (lop2_s hbd214342)
                refine x_iload C.1 dX12_laysSpread_159 0 rfl ?_
                refine x_iconst C.1 (n := 4) dX12_laysSpread_161 ?_
                refine x_icmp_ge C.1 (tgt := 185) dX12_laysSpread_162 (by decide) (by omega) (by decide) (fun hc214346 => ?_) (fun hc214346 => ?_)
                · replace hF := hF.to (if_pos hc214346)
                  refine x_lv [(5, vI z214080), (4, vI z211656), (3, vI z200880), (2, vI z214322), (0, .ref (ad 0)), (1, vI x1)] [2, 3, 4, 1, 5, 6] rfl ?_
                  exact jn214318 (z214322, V214342) ⟨⟨by omega, by omega⟩, hI214342, hB214342, hF⟩
                · replace hF := hF.to (if_neg hc214346)
                  refine x_aload_n C.1 dX12_laysSpread_165 5 rfl ?_
                  refine x_getA C (N := 33) (i := 0) (by decide) rfl vc_X12 wx_X12 44 (by decide) wf_X12_93 (a := 28) rfl dX12_laysSpread_166 ?_
                  refine x_iload C.1 dX12_laysSpread_169 0 rfl ?_
                  refine x_aload_n C.1 dX12_laysSpread_171 5 rfl ?_
                  refine x_getA C (N := 33) (i := 0) (by decide) rfl vc_X12 wx_X12 43 (by decide) wf_X12_90 (a := 27) rfl dX12_laysSpread_172 ?_
                  refine x_iload C.1 dX12_laysSpread_175 0 rfl ?_
                  obtain ⟨z214347, ez214347, bz214347⟩ := hI214342.rd 27 z214341.toNat (x := 0) (y := 24) rfl
                  replace hF := hF.to (rdb_e (z := z214347) ez214347)
                  replace hF := hF.fc bz214347
                  refine x_iald C (N := 33) (i := 27) (q := z214341) (by decide) rfl (by omega) (by decide) dX12_laysSpread_177 (a := z214347) ez214347 ?_
                  refine x_iast C (N := 33) (i := 28) (q := z214341) (a := z214347) (by decide) rfl (by omega) (by decide) dX12_laysSpread_178 ?_
                  refine x_gV ?_
                  intro V214348 hV214348
                  have hI214348 : MI G V214348 := hI214342.up hV214348 rfl (by omega) rfl (Or.inl (by decide))
                  have hB214348 := hB214342.up hV214348 (by rw [mkey_r (by decide)]; rfl)
                  replace hF := hF.to (rdb_e (z := V214348) hV214348.symm)
                  refine x_iinc C.1 (v := z214341 + 1) (lv' := [(6, vI (z214341 + 1)), (2, vI z214322), (5, vI z214080), (4, vI z211656), (3, vI z200880), (0, .ref (ad 0)), (1, vI x1)]) (by omega) dX12_laysSpread_179 0 rfl (by decide) rfl ?_
                  refine x_goto C.1 (tgt := 159) dX12_laysSpread_182 (by decide) ?_
                  have hmu214342 : (5 - (z214341 + 1)).toNat < (5 - z214341).toNat := (by omega)
                  exact ih214342 (z214341 + 1, V214348) ⟨⟨by omega, by omega⟩, hI214348, hB214348, ⟨nf214342, Nat.lt_of_lt_of_le hmu214342 (Nat.le_of_lt_succ hn214342), hF⟩⟩ hmu214342
              · replace hF := hF.to (if_neg hc214321)
                refine x_goto C.1 (tgt := 185) dX12_laysSpread_148 (by decide) ?_
                exact jn214318 (z214081, V214286) ⟨⟨by omega, by omega⟩, hI214286, hB214286, hF⟩
  · replace hF := hF.to (if_neg hc161216)
    refine x_iconst C.1 (n := 0) dX12_laysSpread_9 ?_
    refine x_istore C.1 (lv' := [(4, vI 0), (3, vI z107580), (2, vI (-1)), (0, .ref (ad 0)), (1, vI x1)]) dX12_laysSpread_10 (by decide) rfl ?_
    obtain ⟨bd214461, hbd214461, hF⟩ := lop2_ex hF
    refine x_loop (I := fun x : Int × (Nat → Nat → Int) => match x with | (z214460, V214461) => (0 ≤ z214460 ∧ z214460 ≤ 25) ∧ MI G V214461 ∧ FBm 8672833940595814141599416320 V V214461 ∧ (∃ nf : Nat, (26 - z214460).toNat < nf ∧ Imp (lop2 nf bd214461 z214460 V214461) (f_m_laysSpread x1 V J Rr))) (μ := fun x : Int × (Nat → Nat → Int) => match x with | (z214460, V214461) => (26 - z214460).toNat) (wsf := fun x : Int × (Nat → Nat → Int) => match x with | (z214460, V214461) => MW cy ad V214461 J Rr) (lvf := fun x : Int × (Nat → Nat → Int) => match x with | (z214460, V214461) => [(4, vI z214460), (3, vI z107580), (2, vI (-1)), (0, .ref (ad 0)), (1, vI x1)]) (fun x hI214461x ih214461 => ?_) (0, V107581) ⟨⟨by decide, by decide⟩, hI107581, hB107581, ⟨_, (by omega), hF⟩⟩ rfl rfl
    obtain ⟨z214460, V214461⟩ := x
    obtain ⟨bz214460, hI214461, hB214461, nf214461, hn214461, hF⟩ := hI214461x
    try dsimp only
    obtain ⟨nf214461, rfl⟩ : ∃ mm, nf214461 = mm + 1 := ⟨nf214461 - 1, (Nat.succ_pred_eq_of_pos (Nat.lt_of_le_of_lt (Nat.zero_le _) hn214461)).symm⟩
    replace hF := hF.to (lop2_s hbd214461)
    refine x_iload C.1 dX12_laysSpread_12 0 rfl ?_
    refine x_bipush C.1 (n := 24) dX12_laysSpread_14 ?_
    refine x_icmp_gt C.1 (tgt := 56) dX12_laysSpread_16 (by decide) (by omega) (by decide) (fun hc214502 => ?_) (fun hc214502 => ?_)
    · replace hF := hF.to (if_pos hc214502)
      refine x_iinc C.1 (v := z107580 + 1) (lv' := [(3, vI (z107580 + 1)), (4, vI z214460), (2, vI (-1)), (0, .ref (ad 0)), (1, vI x1)]) (by omega) dX12_laysSpread_56 1 rfl (by decide) rfl ?_
      refine x_goto C.1 (tgt := 4) dX12_laysSpread_59 (by decide) ?_
      refine x_lv [(3, vI (z107580 + 1)), (2, vI (-1)), (0, .ref (ad 0)), (1, vI x1)] [0, 2, 3, 4] rfl ?_
      have hmu107581 : (5 - (z107580 + 1)).toNat < (5 - z107580).toNat := (by omega)
      exact ih107581 (z107580 + 1, V214461) ⟨⟨by omega, by omega⟩, hI214461, hB214461, ⟨nf107581, Nat.lt_of_lt_of_le hmu107581 (Nat.le_of_lt_succ hn107581), hF⟩⟩ hmu107581
    · replace hF := hF.to (if_neg hc214502)
      refine x_aload_n C.1 dX12_laysSpread_19 3 rfl ?_
      refine x_getA C (N := 33) (i := 0) (by decide) rfl vc_X12 wx_X12 42 (by decide) wf_X12_87 (a := 26) rfl dX12_laysSpread_20 ?_
      refine x_bipush C.1 (n := 25) dX12_laysSpread_23 ?_
      refine x_iload_n C.1 dX12_laysSpread_25 1 rfl ?_
      refine x_imul C.1 (v := 25 * z107580) (by omega) dX12_laysSpread_26 ?_
      refine x_iload C.1 dX12_laysSpread_27 0 rfl ?_
      refine x_iadd C.1 (v := 25 * z107580 + z214460) (by omega) dX12_laysSpread_29 ?_
      refine x_aload_n C.1 dX12_laysSpread_30 3 rfl ?_
      refine x_iload_n C.1 dX12_laysSpread_31 1 rfl ?_
      refine x_callVi C (As := [vI z107580]) (rest := [vI (25 * z107580 + z214460), .ref (ad 26)]) 0 (xw_at (N := 33) (i := 0) (by decide) rfl) vc_X12 (m_lives l D cy ad G V214461 J Rr hI214461 hJ hR z107580 ⟨by omega, by omega⟩) (l1 := []) (l2 := []) (List.append_nil _).symm (w2 := fun _ => MW cy ad V214461 J Rr) (fun _ => List.append_nil _) rfl wm_yX12_lives wn_X12 wl_X12_130 wi_yX12_lives we_yX12_lives hd_yX12_lives rfl ⟨Nat.le_of_ble_eq_true rfl, Nat.le_of_ble_eq_true rfl⟩ (Nat.le_of_ble_eq_true rfl) ⟨Nat.le_of_ble_eq_true rfl, Nat.le_of_ble_eq_true rfl⟩ dX12_laysSpread_32 (fun z214503 u214503 bz214503 h214503 => ?_)
      obtain ⟨bq214503, hx214503_0, hFc214503⟩ := h214503
      replace hF := calR_i hF hFc214503
      replace hF := hF.fc bq214503
      obtain ⟨jf214509, hjf214509, hF⟩ := jn_ex hF
      refine x_join (I := fun x : Int × (Nat → Nat → Int) => match x with | (z214508, V214509) => (-2147483648 ≤ z214508 ∧ z214508 ≤ 2147483647) ∧ MI G V214509 ∧ FBm 8672833940595814141599416320 V V214509 ∧ Imp (jf214509 z214508 V214509) (f_m_laysSpread x1 V J Rr)) (wsf := fun x : Int × (Nat → Nat → Int) => match x with | (z214508, V214509) => MW cy ad V214509 J Rr) (lvf := fun x : Int × (Nat → Nat → Int) => match x with | (z214508, V214509) => [(4, vI z214460), (3, vI z107580), (2, vI (-1)), (0, .ref (ad 0)), (1, vI x1)]) (stf := fun x : Int × (Nat → Nat → Int) => match x with | (z214508, V214509) => [vI z214508, vI (25 * z107580 + z214460), .ref (ad 26)]) 49 (fun x hI214509x => ?_) (fun jn214509 => ?_)
      · obtain ⟨z214508, V214509⟩ := x
        obtain ⟨bz214508, hI214509, hB214509, hF⟩ := hI214509x
        try dsimp only
        replace hF := hF.to (jn_s2 hjf214509)
        refine x_iast C (N := 33) (i := 26) (q := 25 * z107580 + z214460) (a := z214508) (by decide) rfl (by omega) (by decide) dX12_laysSpread_49 ?_
        refine x_gV ?_
        intro V214510 hV214510
        have hI214510 : MI G V214510 := hI214509.up hV214510 rfl (by omega) rfl (Or.inl (by decide))
        have hB214510 := hB214509.up hV214510 (by rw [mkey_r (by decide)]; rfl)
        replace hF := hF.to (rdb_e (z := V214510) hV214510.symm)
        refine x_iinc C.1 (v := z214460 + 1) (lv' := [(4, vI (z214460 + 1)), (3, vI z107580), (2, vI (-1)), (0, .ref (ad 0)), (1, vI x1)]) (by omega) dX12_laysSpread_50 0 rfl (by decide) rfl ?_
        refine x_goto C.1 (tgt := 12) dX12_laysSpread_53 (by decide) ?_
        have hmu214461 : (26 - (z214460 + 1)).toNat < (26 - z214460).toNat := (by omega)
        exact ih214461 (z214460 + 1, V214510) ⟨⟨by omega, by omega⟩, hI214510, hB214510, ⟨nf214461, Nat.lt_of_lt_of_le hmu214461 (Nat.le_of_lt_succ hn214461), hF⟩⟩ hmu214461
      · refine x_if_eq C.1 (tgt := 48) dX12_laysSpread_35 (by decide) (by omega) (fun hc214511 => ?_) (fun hc214511 => ?_)
        · replace hF := hF.to (if_pos hc214511)
          refine x_iconst C.1 (n := 0) dX12_laysSpread_48 ?_
          exact jn214509 (0, V214461) ⟨⟨by decide, by decide⟩, hI214461, hB214461, hF⟩
        · replace hF := hF.to (if_neg hc214511)
          have hon214512 := Sp.on hx214503_0 (by omega)
          obtain ⟨z214513, ez214513, bz214513⟩ := hI214461.rd 1 ((z107580 + 12).toNat) (x := 0) (y := 9) (rgN_20 (Or.inl rfl) (by omega))
          have by214513 : z214513 ≤ 8 := by rw [← ez214513, show (z107580 + 12).toNat = 12 + z107580.toNat by omega]; exact hon214512.2.1
          replace hF := hF.to (rdb_e (z := z214513) ez214513)
          replace hF := hF.fc ⟨bz214513.1, by214513⟩
          obtain ⟨z214514, ez214514, bz214514⟩ := hI214461.rd 1 ((z107580 + 16).toNat) (x := 0) (y := 9) (rgN_20 (Or.inl rfl) (by omega))
          have by214514 : z214514 ≤ 8 := by rw [← ez214514, show (z107580 + 16).toNat = 16 + z107580.toNat by omega]; exact hon214512.2.2
          replace hF := hF.to (rdb_e (z := z214514) ez214514)
          replace hF := hF.fc ⟨bz214514.1, by214514⟩
          refine x_aload_n C.1 dX12_laysSpread_38 3 rfl ?_
          refine x_iload_n C.1 dX12_laysSpread_39 1 rfl ?_
          refine x_iload C.1 dX12_laysSpread_40 0 rfl ?_
          refine x_callVi C (As := [vI z107580, vI z214460]) (rest := [vI (25 * z107580 + z214460), .ref (ad 26)]) 0 (xw_at (N := 33) (i := 0) (by decide) rfl) vc_X12 (m_lastsWith l D cy ad G V214461 J Rr hI214461 hJ hR z107580 ⟨by omega, by omega⟩ z214460 ⟨by omega, by omega⟩ hW ⟨by rw [show 12 + z107580.toNat = (z107580 + 12).toNat by omega, ez214513]; omega, by rw [show 16 + z107580.toNat = (z107580 + 16).toNat by omega, ez214514]; omega⟩) (l1 := []) (l2 := []) (List.append_nil _).symm (w2 := fun u : Nat → Nat → Int => MW cy ad u J Rr) (fun _ => List.append_nil _) rfl wm_yX12_lastsWith wn_X12 wl_X12_353 wi_yX12_lastsWith we_yX12_lastsWith hd_yX12_lastsWith rfl ⟨Nat.le_of_ble_eq_true rfl, Nat.le_of_ble_eq_true rfl⟩ (Nat.le_of_ble_eq_true rfl) ⟨Nat.le_of_ble_eq_true rfl, Nat.le_of_ble_eq_true rfl⟩ dX12_laysSpread_42 (fun z214515 V214515 bz214515 h214515 => ?_)
          obtain ⟨hI214515, hx214515_0, hBc214515, hFc214515⟩ := h214515
          replace hF := calVM_i hF hFc214515 hBc214515
          have hB214515 := hB214461.tr hBc214515 (m := 7253665598152217305546752) rfl
          refine x_goto C.1 (tgt := 49) dX12_laysSpread_45 (by decide) ?_
          exact jn214509 (z214515, V214515) ⟨⟨by omega, by omega⟩, hI214515, hB214515, hF⟩
theorem hd_yX12_laysSpread : yX12_laysSpread.cls ≠ "java/lang/invoke/MethodHandle" ∧ yX12_laysSpread.cls ≠ "java/lang/invoke/VarHandle" ∧ (parseMethodDescriptor yX12_laysSpread.desc).map (fun d => d.parameters.length) = some 1 := by decide +kernel
theorem dX12_spread_0 : decode cX12_spread 0 = .ok (.iload_n 1, 1) := by decide +kernel
theorem dX12_spread_1 : decode cX12_spread 1 = .ok (.iconst 0, 1) := by decide +kernel
theorem dX12_spread_2 : decode cX12_spread 2 = .ok (.bipush 24, 2) := by decide +kernel
theorem dX12_spread_4 : decode cX12_spread 4 = .ok (.invokestatic 126, 3) := by decide +kernel
theorem dX12_spread_7 : decode cX12_spread 7 = .ok (.ifCond .eq 18, 3) := by decide +kernel
theorem dX12_spread_10 : decode cX12_spread 10 = .ok (.iload_n 2, 1) := by decide +kernel
theorem dX12_spread_11 : decode cX12_spread 11 = .ok (.bipush 10, 2) := by decide +kernel
theorem dX12_spread_13 : decode cX12_spread 13 = .ok (.if_icmp .eq 14, 3) := by decide +kernel
theorem dX12_spread_16 : decode cX12_spread 16 = .ok (.iload_n 2, 1) := by decide +kernel
theorem dX12_spread_17 : decode cX12_spread 17 = .ok (.iconst 0, 1) := by decide +kernel
theorem dX12_spread_18 : decode cX12_spread 18 = .ok (.iconst 3, 1) := by decide +kernel
theorem dX12_spread_19 : decode cX12_spread 19 = .ok (.invokestatic 126, 3) := by decide +kernel
theorem dX12_spread_22 : decode cX12_spread 22 = .ok (.ifCond .ne 5, 3) := by decide +kernel
theorem dX12_spread_25 : decode cX12_spread 25 = .ok (.iconst (-1), 1) := by decide +kernel
theorem dX12_spread_26 : decode cX12_spread 26 = .ok (.ireturn, 1) := by decide +kernel
theorem dX12_spread_27 : decode cX12_spread 27 = .ok (.aload_n 0, 1) := by decide +kernel
theorem dX12_spread_28 : decode cX12_spread 28 = .ok (.getfield 7, 3) := by decide +kernel
theorem dX12_spread_31 : decode cX12_spread 31 = .ok (.bipush 76, 2) := by decide +kernel
theorem dX12_spread_33 : decode cX12_spread 33 = .ok (.iaload, 1) := by decide +kernel
theorem dX12_spread_34 : decode cX12_spread 34 = .ok (.aload_n 0, 1) := by decide +kernel
theorem dX12_spread_35 : decode cX12_spread 35 = .ok (.getfield 7, 3) := by decide +kernel
theorem dX12_spread_38 : decode cX12_spread 38 = .ok (.bipush 77, 2) := by decide +kernel
theorem dX12_spread_40 : decode cX12_spread 40 = .ok (.iaload, 1) := by decide +kernel
theorem dX12_spread_41 : decode cX12_spread 41 = .ok (.iconst (-1), 1) := by decide +kernel
theorem dX12_spread_42 : decode cX12_spread 42 = .ok (.ixor, 1) := by decide +kernel
theorem dX12_spread_43 : decode cX12_spread 43 = .ok (.iand, 1) := by decide +kernel
theorem dX12_spread_44 : decode cX12_spread 44 = .ok (.ifCond .ne 6, 3) := by decide +kernel
theorem dX12_spread_47 : decode cX12_spread 47 = .ok (.bipush (-2), 2) := by decide +kernel
theorem dX12_spread_49 : decode cX12_spread 49 = .ok (.ireturn, 1) := by decide +kernel
theorem dX12_spread_50 : decode cX12_spread 50 = .ok (.aload_n 0, 1) := by decide +kernel
theorem dX12_spread_51 : decode cX12_spread 51 = .ok (.iload_n 1, 1) := by decide +kernel
theorem dX12_spread_52 : decode cX12_spread 52 = .ok (.invokevirtual 362, 3) := by decide +kernel
theorem dX12_spread_55 : decode cX12_spread 55 = .ok (.istore_n 3, 1) := by decide +kernel
theorem dX12_spread_56 : decode cX12_spread 56 = .ok (.iload_n 2, 1) := by decide +kernel
theorem dX12_spread_57 : decode cX12_spread 57 = .ok (.bipush 10, 2) := by decide +kernel
theorem dX12_spread_59 : decode cX12_spread 59 = .ok (.if_icmp .ne 7, 3) := by decide +kernel
theorem dX12_spread_62 : decode cX12_spread 62 = .ok (.iload_n 3, 1) := by decide +kernel
theorem dX12_spread_63 : decode cX12_spread 63 = .ok (.goto 9, 3) := by decide +kernel
theorem dX12_spread_66 : decode cX12_spread 66 = .ok (.aload_n 0, 1) := by decide +kernel
theorem dX12_spread_67 : decode cX12_spread 67 = .ok (.getfield 93, 3) := by decide +kernel
theorem dX12_spread_70 : decode cX12_spread 70 = .ok (.iload_n 2, 1) := by decide +kernel
theorem dX12_spread_71 : decode cX12_spread 71 = .ok (.iaload, 1) := by decide +kernel
theorem dX12_spread_72 : decode cX12_spread 72 = .ok (.ireturn, 1) := by decide +kernel
set_option maxRecDepth 100000 in
def f_m_spread (x1 : Int) (x2 : Int) (V : Nat → Nat → Int) (J : Nat → Nat → Int) (Rr : Nat → Nat → Nat) : (Int × (Nat → Nat → Int)) → Prop :=
  calR (f_m_in x1 0 24) fun z1 => fct (0 ≤ z1 ∧ z1 ≤ 1) <| (if z1 = 0 then rtn ((-1), V) else (if x2 = 10 then rdb (V 1 76) fun z5 => rdb (V 1 77) fun z6 => rdb (iXor z6 (-1)) fun z7 => rdb (iAnd z5 z7) fun z8 => (if ¬ z8 = 0 then calVM 8672833940595814141599416320 V (f_m_laysSpread x1 V J Rr) fun z10 V10 => rtn (z10, V10) else rtn ((-2), V)) else calR (f_m_in x2 0 3) fun z11 => fct (0 ≤ z11 ∧ z11 ≤ 1) <| (if ¬ z11 = 0 then rdb (V 1 76) fun z14 => rdb (V 1 77) fun z15 => rdb (iXor z15 (-1)) fun z16 => rdb (iAnd z14 z16) fun z17 => (if ¬ z17 = 0 then calVM 8672833940595814141599416320 V (f_m_laysSpread x1 V J Rr) fun z19 V19 => rdb (V19 28 x2.toNat) fun z20 => rtn (z20, V19) else rtn ((-2), V)) else rtn ((-1), V))))
set_option maxHeartbeats 8000000 in
set_option maxRecDepth 100000 in
theorem m_spread (l : Launch) (D : va_G) (cy : Nat → ClassId) (ad : Nat → Nat) (G : Nat → Nat → Int) (V J : Nat → Nat → Int) (Rr : Nat → Nat → Nat) (hI : MI G V) (hJ : VJ J) (hR : MR Rr) (x1 : Int) (bx1 : -2147483648 ≤ x1 ∧ x1 ≤ 2147483647) (x2 : Int) (bx2 : -2147483648 ≤ x2 ∧ x2 ≤ 2147483647) (hW : WP G) : xMi l D (xTY cy) yX12_spread cX12_spread 4 (some .int) 6 148 0 0 [.ref (ad 0), vI x1, vI x2] (MW cy ad V J Rr) (fun u : Nat → Nat → Int => MW cy ad u J Rr) (fun a (u : Nat → Nat → Int) => MI G u ∧ FBm 8672833940595814141599416320 V u ∧ (f_m_spread x1 x2 V J Rr) (a, u)) := by
  refine xMi.mk (lv0 := [(0, .ref (ad 0)), (1, vI x1), (2, vI x2)]) (by decide) rfl (Nat.le_of_ble_eq_true rfl) (fun p e s m below meth c A C hr hnm hAe => ?_)
  have C : xC2 p s m _ meth c D A s.heap 4 cX12_spread RX12 (xTY cy) := C
  have hB : FBm 8672833940595814141599416320 V V := FBm.rf _ _
  have hF := Imp.of_eq (f_m_spread.eq_def x1 x2 V J Rr)
  refine x_iload_n C.1 dX12_spread_0 1 rfl ?_
  refine x_iconst C.1 (n := 0) dX12_spread_1 ?_
  refine x_bipush C.1 (n := 24) dX12_spread_2 ?_
  refine x_callSi C (As := [vI x1, vI 0, vI 24]) (rest := []) (m_in l D cy x1 ⟨by omega, by omega⟩ 0 ⟨by decide, by decide⟩ 24 ⟨by decide, by decide⟩) (l1 := []) (l2 := _) rfl (w2 := fun _ => _) (fun _ => rfl) rfl wm_yX12_in wn_X12 wl_X12_126 wi_yX12_in hd_yX12_in rfl ⟨Nat.le_of_ble_eq_true rfl, Nat.le_of_ble_eq_true rfl⟩ (Nat.le_of_ble_eq_true rfl) ⟨Nat.le_of_ble_eq_true rfl, Nat.le_of_ble_eq_true rfl⟩ dX12_spread_4 (fun z1 u1 bz1 h1 => ?_)
  obtain ⟨bq1, hx1_0, hFc1⟩ := h1
  replace hF := calR_i hF hFc1
  replace hF := hF.fc bq1
  refine x_if_eq C.1 (tgt := 25) dX12_spread_7 (by decide) (by omega) (fun hc2 => ?_) (fun hc2 => ?_)
  · replace hF := hF.to (if_pos hc2)
    refine x_iconst C.1 (n := -1) dX12_spread_25 ?_
    exact x_iret (S := (Nat → Nat → Int)) (post := (fun a (u : Nat → Nat → Int) => MI G u ∧ FBm 8672833940595814141599416320 V u ∧ (f_m_spread x1 x2 V J Rr) (a, u))) (w1 := (fun u : Nat → Nat → Int => MW cy ad u J Rr)) (a := (-1)) C hr rfl dX12_spread_26 (by decide) V rfl ⟨hI, hB, hF _ rfl⟩
  · replace hF := hF.to (if_neg hc2)
    have hon3 := Sq.on hx1_0 (by omega)
    refine x_iload_n C.1 dX12_spread_10 2 rfl ?_
    refine x_bipush C.1 (n := 10) dX12_spread_11 ?_
    refine x_icmp_eq C.1 (tgt := 27) dX12_spread_13 (by decide) (by omega) (by decide) (fun hc4 => ?_) (fun hc4 => ?_)
    · replace hF := hF.to (if_pos hc4)
      refine x_aload_n C.1 dX12_spread_27 0 rfl ?_
      refine x_getA C (N := 33) (i := 0) (by decide) rfl vc_X12 wx_X12 0 (by decide) wf_X12_7 (a := 1) rfl dX12_spread_28 ?_
      refine x_bipush C.1 (n := 76) dX12_spread_31 ?_
      obtain ⟨z5, ez5, bz5⟩ := hI.rd 1 76 (x := -2147483648) (y := 2147483647) (rgN_81 (Or.inl rfl) (by decide))
      replace hF := hF.to (rdb_e (z := z5) ez5)
      refine x_iald C (N := 33) (i := 1) (q := 76) (by decide) rfl (by decide) (by decide) dX12_spread_33 (a := z5) ez5 ?_
      refine x_aload_n C.1 dX12_spread_34 0 rfl ?_
      refine x_getA C (N := 33) (i := 0) (by decide) rfl vc_X12 wx_X12 0 (by decide) wf_X12_7 (a := 1) rfl dX12_spread_35 ?_
      refine x_bipush C.1 (n := 77) dX12_spread_38 ?_
      obtain ⟨z6, ez6, bz6⟩ := hI.rd 1 77 (x := -2147483648) (y := 2147483647) (rgN_81 (Or.inl rfl) (by decide))
      replace hF := hF.to (rdb_e (z := z6) ez6)
      refine x_iald C (N := 33) (i := 1) (q := 77) (by decide) rfl (by decide) (by decide) dX12_spread_40 (a := z6) ez6 ?_
      refine x_iconst C.1 (n := -1) dX12_spread_41 ?_
      obtain ⟨z7, hz7, bz7⟩ : ∃ z : Int, iXor z6 (-1) = z ∧ (-2147483648 ≤ z ∧ z ≤ 2147483647) := ⟨_, rfl, xi_r _⟩
      replace hF := hF.to (rdb_e (z := z7) hz7)
      refine x_ixor C.1 (v := z7) hz7 dX12_spread_42 ?_
      obtain ⟨z8, hz8, bz8⟩ : ∃ z : Int, iAnd z5 z7 = z ∧ (-2147483648 ≤ z ∧ z ≤ 2147483647) := ⟨_, rfl, xi_r _⟩
      replace hF := hF.to (rdb_e (z := z8) hz8)
      refine x_iand C.1 (v := z8) hz8 dX12_spread_43 ?_
      refine x_if_ne C.1 (tgt := 50) dX12_spread_44 (by decide) (by omega) (fun hc9 => ?_) (fun hc9 => ?_)
      · replace hF := hF.to (if_pos hc9)
        refine x_aload_n C.1 dX12_spread_50 0 rfl ?_
        refine x_iload_n C.1 dX12_spread_51 1 rfl ?_
        refine x_callVi C (As := [vI x1]) (rest := []) 0 (xw_at (N := 33) (i := 0) (by decide) rfl) vc_X12 (m_laysSpread l D cy ad G V J Rr hI hJ hR x1 ⟨by omega, by omega⟩ hW) (l1 := []) (l2 := []) (List.append_nil _).symm (w2 := fun u : Nat → Nat → Int => MW cy ad u J Rr) (fun _ => List.append_nil _) rfl wm_yX12_laysSpread wn_X12 wl_X12_362 wi_yX12_laysSpread we_yX12_laysSpread hd_yX12_laysSpread rfl ⟨Nat.le_of_ble_eq_true rfl, Nat.le_of_ble_eq_true rfl⟩ (Nat.le_of_ble_eq_true rfl) ⟨Nat.le_of_ble_eq_true rfl, Nat.le_of_ble_eq_true rfl⟩ dX12_spread_52 (fun z10 V10 bz10 h10 => ?_)
        obtain ⟨hI10, hBc10, hFc10⟩ := h10
        replace hF := calVM_i hF hFc10 hBc10
        have hB10 := hB.tr hBc10 (m := 8672833940595814141599416320) rfl
        refine x_istore_n C.1 (lv' := [(3, vI z10), (0, .ref (ad 0)), (1, vI x1), (2, vI x2)]) dX12_spread_55 (by decide) rfl ?_
        refine x_iload_n C.1 dX12_spread_56 3 rfl ?_
        refine x_bipush C.1 (n := 10) dX12_spread_57 ?_
        refine x_icmp_ne_f C.1 (tgt := 66) dX12_spread_59 (by decide) (by omega) (by decide) (by omega) ?_
        refine x_iload_n C.1 dX12_spread_62 0 rfl ?_
        refine x_goto C.1 (tgt := 72) dX12_spread_63 (by decide) ?_
        exact x_iret (S := (Nat → Nat → Int)) (post := (fun a (u : Nat → Nat → Int) => MI G u ∧ FBm 8672833940595814141599416320 V u ∧ (f_m_spread x1 x2 V J Rr) (a, u))) (w1 := (fun u : Nat → Nat → Int => MW cy ad u J Rr)) (a := z10) C hr rfl dX12_spread_72 (by omega) V10 rfl ⟨hI10, hB10, hF _ rfl⟩
      · replace hF := hF.to (if_neg (fun hh => hh hc9))
        refine x_bipush C.1 (n := -2) dX12_spread_47 ?_
        exact x_iret (S := (Nat → Nat → Int)) (post := (fun a (u : Nat → Nat → Int) => MI G u ∧ FBm 8672833940595814141599416320 V u ∧ (f_m_spread x1 x2 V J Rr) (a, u))) (w1 := (fun u : Nat → Nat → Int => MW cy ad u J Rr)) (a := (-2)) C hr rfl dX12_spread_49 (by decide) V rfl ⟨hI, hB, hF _ rfl⟩
    · replace hF := hF.to (if_neg hc4)
      refine x_iload_n C.1 dX12_spread_16 2 rfl ?_
      refine x_iconst C.1 (n := 0) dX12_spread_17 ?_
      refine x_iconst C.1 (n := 3) dX12_spread_18 ?_
      refine x_callSi C (As := [vI x2, vI 0, vI 3]) (rest := []) (m_in l D cy x2 ⟨by omega, by omega⟩ 0 ⟨by decide, by decide⟩ 3 ⟨by decide, by decide⟩) (l1 := []) (l2 := _) rfl (w2 := fun _ => _) (fun _ => rfl) rfl wm_yX12_in wn_X12 wl_X12_126 wi_yX12_in hd_yX12_in rfl ⟨Nat.le_of_ble_eq_true rfl, Nat.le_of_ble_eq_true rfl⟩ (Nat.le_of_ble_eq_true rfl) ⟨Nat.le_of_ble_eq_true rfl, Nat.le_of_ble_eq_true rfl⟩ dX12_spread_19 (fun z11 u11 bz11 h11 => ?_)
      obtain ⟨bq11, hx11_0, hFc11⟩ := h11
      replace hF := calR_i hF hFc11
      replace hF := hF.fc bq11
      refine x_if_ne C.1 (tgt := 27) dX12_spread_22 (by decide) (by omega) (fun hc12 => ?_) (fun hc12 => ?_)
      · replace hF := hF.to (if_pos hc12)
        have hon13 := Sq.on hx11_0 (by omega)
        refine x_aload_n C.1 dX12_spread_27 0 rfl ?_
        refine x_getA C (N := 33) (i := 0) (by decide) rfl vc_X12 wx_X12 0 (by decide) wf_X12_7 (a := 1) rfl dX12_spread_28 ?_
        refine x_bipush C.1 (n := 76) dX12_spread_31 ?_
        obtain ⟨z14, ez14, bz14⟩ := hI.rd 1 76 (x := -2147483648) (y := 2147483647) (rgN_81 (Or.inl rfl) (by decide))
        replace hF := hF.to (rdb_e (z := z14) ez14)
        refine x_iald C (N := 33) (i := 1) (q := 76) (by decide) rfl (by decide) (by decide) dX12_spread_33 (a := z14) ez14 ?_
        refine x_aload_n C.1 dX12_spread_34 0 rfl ?_
        refine x_getA C (N := 33) (i := 0) (by decide) rfl vc_X12 wx_X12 0 (by decide) wf_X12_7 (a := 1) rfl dX12_spread_35 ?_
        refine x_bipush C.1 (n := 77) dX12_spread_38 ?_
        obtain ⟨z15, ez15, bz15⟩ := hI.rd 1 77 (x := -2147483648) (y := 2147483647) (rgN_81 (Or.inl rfl) (by decide))
        replace hF := hF.to (rdb_e (z := z15) ez15)
        refine x_iald C (N := 33) (i := 1) (q := 77) (by decide) rfl (by decide) (by decide) dX12_spread_40 (a := z15) ez15 ?_
        refine x_iconst C.1 (n := -1) dX12_spread_41 ?_
        obtain ⟨z16, hz16, bz16⟩ : ∃ z : Int, iXor z15 (-1) = z ∧ (-2147483648 ≤ z ∧ z ≤ 2147483647) := ⟨_, rfl, xi_r _⟩
        replace hF := hF.to (rdb_e (z := z16) hz16)
        refine x_ixor C.1 (v := z16) hz16 dX12_spread_42 ?_
        obtain ⟨z17, hz17, bz17⟩ : ∃ z : Int, iAnd z14 z16 = z ∧ (-2147483648 ≤ z ∧ z ≤ 2147483647) := ⟨_, rfl, xi_r _⟩
        replace hF := hF.to (rdb_e (z := z17) hz17)
        refine x_iand C.1 (v := z17) hz17 dX12_spread_43 ?_
        refine x_if_ne C.1 (tgt := 50) dX12_spread_44 (by decide) (by omega) (fun hc18 => ?_) (fun hc18 => ?_)
        · replace hF := hF.to (if_pos hc18)
          refine x_aload_n C.1 dX12_spread_50 0 rfl ?_
          refine x_iload_n C.1 dX12_spread_51 1 rfl ?_
          refine x_callVi C (As := [vI x1]) (rest := []) 0 (xw_at (N := 33) (i := 0) (by decide) rfl) vc_X12 (m_laysSpread l D cy ad G V J Rr hI hJ hR x1 ⟨by omega, by omega⟩ hW) (l1 := []) (l2 := []) (List.append_nil _).symm (w2 := fun u : Nat → Nat → Int => MW cy ad u J Rr) (fun _ => List.append_nil _) rfl wm_yX12_laysSpread wn_X12 wl_X12_362 wi_yX12_laysSpread we_yX12_laysSpread hd_yX12_laysSpread rfl ⟨Nat.le_of_ble_eq_true rfl, Nat.le_of_ble_eq_true rfl⟩ (Nat.le_of_ble_eq_true rfl) ⟨Nat.le_of_ble_eq_true rfl, Nat.le_of_ble_eq_true rfl⟩ dX12_spread_52 (fun z19 V19 bz19 h19 => ?_)
          obtain ⟨hI19, hBc19, hFc19⟩ := h19
          replace hF := calVM_i hF hFc19 hBc19
          have hB19 := hB.tr hBc19 (m := 8672833940595814141599416320) rfl
          refine x_istore_n C.1 (lv' := [(3, vI z19), (0, .ref (ad 0)), (1, vI x1), (2, vI x2)]) dX12_spread_55 (by decide) rfl ?_
          refine x_iload_n C.1 dX12_spread_56 3 rfl ?_
          refine x_bipush C.1 (n := 10) dX12_spread_57 ?_
          refine x_icmp_ne_t C.1 (tgt := 66) dX12_spread_59 (by decide) (by omega) (by decide) (by omega) ?_
          refine x_aload_n C.1 dX12_spread_66 1 rfl ?_
          refine x_getA C (N := 33) (i := 0) (by decide) rfl vc_X12 wx_X12 44 (by decide) wf_X12_93 (a := 28) rfl dX12_spread_67 ?_
          refine x_iload_n C.1 dX12_spread_70 3 rfl ?_
          obtain ⟨z20, ez20, bz20⟩ := hI19.rd 28 x2.toNat (x := -2147483648) (y := 2147483647) rfl
          replace hF := hF.to (rdb_e (z := z20) ez20)
          refine x_iald C (N := 33) (i := 28) (q := x2) (by decide) rfl (by omega) (by decide) dX12_spread_71 (a := z20) ez20 ?_
          exact x_iret (S := (Nat → Nat → Int)) (post := (fun a (u : Nat → Nat → Int) => MI G u ∧ FBm 8672833940595814141599416320 V u ∧ (f_m_spread x1 x2 V J Rr) (a, u))) (w1 := (fun u : Nat → Nat → Int => MW cy ad u J Rr)) (a := z20) C hr rfl dX12_spread_72 (by omega) V19 rfl ⟨hI19, hB19, hF _ rfl⟩
        · replace hF := hF.to (if_neg (fun hh => hh hc18))
          refine x_bipush C.1 (n := -2) dX12_spread_47 ?_
          exact x_iret (S := (Nat → Nat → Int)) (post := (fun a (u : Nat → Nat → Int) => MI G u ∧ FBm 8672833940595814141599416320 V u ∧ (f_m_spread x1 x2 V J Rr) (a, u))) (w1 := (fun u : Nat → Nat → Int => MW cy ad u J Rr)) (a := (-2)) C hr rfl dX12_spread_49 (by decide) V rfl ⟨hI, hB, hF _ rfl⟩
      · replace hF := hF.to (if_neg (fun hh => hh hc12))
        refine x_iconst C.1 (n := -1) dX12_spread_25 ?_
        exact x_iret (S := (Nat → Nat → Int)) (post := (fun a (u : Nat → Nat → Int) => MI G u ∧ FBm 8672833940595814141599416320 V u ∧ (f_m_spread x1 x2 V J Rr) (a, u))) (w1 := (fun u : Nat → Nat → Int => MW cy ad u J Rr)) (a := (-1)) C hr rfl dX12_spread_26 (by decide) V rfl ⟨hI, hB, hF _ rfl⟩
theorem dX12_wetBehind_0 : decode cX12_wetBehind 0 = .ok (.aload_n 0, 1) := by decide +kernel
theorem dX12_wetBehind_1 : decode cX12_wetBehind 1 = .ok (.getfield 7, 3) := by decide +kernel
theorem dX12_wetBehind_4 : decode cX12_wetBehind 4 = .ok (.aload_n 0, 1) := by decide +kernel
theorem dX12_wetBehind_5 : decode cX12_wetBehind 5 = .ok (.getfield 13, 3) := by decide +kernel
theorem dX12_wetBehind_8 : decode cX12_wetBehind 8 = .ok (.invokestatic 294, 3) := by decide +kernel
theorem dX12_wetBehind_11 : decode cX12_wetBehind 11 = .ok (.iconst 0, 1) := by decide +kernel
theorem dX12_wetBehind_12 : decode cX12_wetBehind 12 = .ok (.istore 4, 2) := by decide +kernel
theorem dX12_wetBehind_14 : decode cX12_wetBehind 14 = .ok (.iload 4, 2) := by decide +kernel
theorem dX12_wetBehind_16 : decode cX12_wetBehind 16 = .ok (.bipush 7, 2) := by decide +kernel
theorem dX12_wetBehind_18 : decode cX12_wetBehind 18 = .ok (.if_icmp .ge 66, 3) := by decide +kernel
theorem dX12_wetBehind_21 : decode cX12_wetBehind 21 = .ok (.aload_n 0, 1) := by decide +kernel
theorem dX12_wetBehind_22 : decode cX12_wetBehind 22 = .ok (.iload_n 1, 1) := by decide +kernel
theorem dX12_wetBehind_23 : decode cX12_wetBehind 23 = .ok (.invokevirtual 130, 3) := by decide +kernel
theorem dX12_wetBehind_26 : decode cX12_wetBehind 26 = .ok (.ifCond .eq 58, 3) := by decide +kernel
theorem dX12_wetBehind_29 : decode cX12_wetBehind 29 = .ok (.iload_n 3, 1) := by decide +kernel
theorem dX12_wetBehind_30 : decode cX12_wetBehind 30 = .ok (.iload_n 2, 1) := by decide +kernel
theorem dX12_wetBehind_31 : decode cX12_wetBehind 31 = .ok (.iload 4, 2) := by decide +kernel
theorem dX12_wetBehind_33 : decode cX12_wetBehind 33 = .ok (.invokestatic 365, 3) := by decide +kernel
theorem dX12_wetBehind_36 : decode cX12_wetBehind 36 = .ok (.istore 5, 2) := by decide +kernel
theorem dX12_wetBehind_38 : decode cX12_wetBehind 38 = .ok (.iload 5, 2) := by decide +kernel
theorem dX12_wetBehind_40 : decode cX12_wetBehind 40 = .ok (.iload_n 2, 1) := by decide +kernel
theorem dX12_wetBehind_41 : decode cX12_wetBehind 41 = .ok (.if_icmp .ge 15, 3) := by decide +kernel
theorem dX12_wetBehind_44 : decode cX12_wetBehind 44 = .ok (.aload_n 0, 1) := by decide +kernel
theorem dX12_wetBehind_45 : decode cX12_wetBehind 45 = .ok (.aload_n 0, 1) := by decide +kernel
theorem dX12_wetBehind_46 : decode cX12_wetBehind 46 = .ok (.getfield 68, 3) := by decide +kernel
theorem dX12_wetBehind_49 : decode cX12_wetBehind 49 = .ok (.iload 5, 2) := by decide +kernel
theorem dX12_wetBehind_51 : decode cX12_wetBehind 51 = .ok (.iaload, 1) := by decide +kernel
theorem dX12_wetBehind_52 : decode cX12_wetBehind 52 = .ok (.iload_n 1, 1) := by decide +kernel
theorem dX12_wetBehind_53 : decode cX12_wetBehind 53 = .ok (.invokevirtual 278, 3) := by decide +kernel
theorem dX12_wetBehind_56 : decode cX12_wetBehind 56 = .ok (.aload_n 0, 1) := by decide +kernel
theorem dX12_wetBehind_57 : decode cX12_wetBehind 57 = .ok (.iload_n 1, 1) := by decide +kernel
theorem dX12_wetBehind_58 : decode cX12_wetBehind 58 = .ok (.iconst 0, 1) := by decide +kernel
theorem dX12_wetBehind_59 : decode cX12_wetBehind 59 = .ok (.invokevirtual 284, 3) := by decide +kernel
theorem dX12_wetBehind_62 : decode cX12_wetBehind 62 = .ok (.aload_n 0, 1) := by decide +kernel
theorem dX12_wetBehind_63 : decode cX12_wetBehind 63 = .ok (.getfield 7, 3) := by decide +kernel
theorem dX12_wetBehind_66 : decode cX12_wetBehind 66 = .ok (.bipush 79, 2) := by decide +kernel
theorem dX12_wetBehind_68 : decode cX12_wetBehind 68 = .ok (.aload_n 0, 1) := by decide +kernel
theorem dX12_wetBehind_69 : decode cX12_wetBehind 69 = .ok (.getfield 7, 3) := by decide +kernel
theorem dX12_wetBehind_72 : decode cX12_wetBehind 72 = .ok (.bipush 79, 2) := by decide +kernel
theorem dX12_wetBehind_74 : decode cX12_wetBehind 74 = .ok (.iaload, 1) := by decide +kernel
theorem dX12_wetBehind_75 : decode cX12_wetBehind 75 = .ok (.iconst 1, 1) := by decide +kernel
theorem dX12_wetBehind_76 : decode cX12_wetBehind 76 = .ok (.iadd, 1) := by decide +kernel
theorem dX12_wetBehind_77 : decode cX12_wetBehind 77 = .ok (.iastore, 1) := by decide +kernel
theorem dX12_wetBehind_78 : decode cX12_wetBehind 78 = .ok (.iinc 4 1, 3) := by decide +kernel
theorem dX12_wetBehind_81 : decode cX12_wetBehind 81 = .ok (.goto (-67), 3) := by decide +kernel
theorem dX12_wetBehind_84 : decode cX12_wetBehind 84 = .ok (.aload_n 0, 1) := by decide +kernel
theorem dX12_wetBehind_85 : decode cX12_wetBehind 85 = .ok (.iload_n 1, 1) := by decide +kernel
theorem dX12_wetBehind_86 : decode cX12_wetBehind 86 = .ok (.invokevirtual 130, 3) := by decide +kernel
theorem dX12_wetBehind_89 : decode cX12_wetBehind 89 = .ok (.ifCond .eq 14, 3) := by decide +kernel
theorem dX12_wetBehind_92 : decode cX12_wetBehind 92 = .ok (.aload_n 0, 1) := by decide +kernel
theorem dX12_wetBehind_93 : decode cX12_wetBehind 93 = .ok (.getfield 7, 3) := by decide +kernel
theorem dX12_wetBehind_96 : decode cX12_wetBehind 96 = .ok (.iconst 4, 1) := by decide +kernel
theorem dX12_wetBehind_97 : decode cX12_wetBehind 97 = .ok (.iload_n 1, 1) := by decide +kernel
theorem dX12_wetBehind_98 : decode cX12_wetBehind 98 = .ok (.iadd, 1) := by decide +kernel
theorem dX12_wetBehind_99 : decode cX12_wetBehind 99 = .ok (.iaload, 1) := by decide +kernel
theorem dX12_wetBehind_100 : decode cX12_wetBehind 100 = .ok (.goto 4, 3) := by decide +kernel
theorem dX12_wetBehind_103 : decode cX12_wetBehind 103 = .ok (.iconst (-1), 1) := by decide +kernel
theorem dX12_wetBehind_104 : decode cX12_wetBehind 104 = .ok (.istore 4, 2) := by decide +kernel
theorem dX12_wetBehind_106 : decode cX12_wetBehind 106 = .ok (.aload_n 0, 1) := by decide +kernel
theorem dX12_wetBehind_107 : decode cX12_wetBehind 107 = .ok (.getfield 13, 3) := by decide +kernel
theorem dX12_wetBehind_110 : decode cX12_wetBehind 110 = .ok (.aload_n 0, 1) := by decide +kernel
theorem dX12_wetBehind_111 : decode cX12_wetBehind 111 = .ok (.getfield 7, 3) := by decide +kernel
theorem dX12_wetBehind_114 : decode cX12_wetBehind 114 = .ok (.invokestatic 294, 3) := by decide +kernel
theorem dX12_wetBehind_117 : decode cX12_wetBehind 117 = .ok (.iload 4, 2) := by decide +kernel
theorem dX12_wetBehind_119 : decode cX12_wetBehind 119 = .ok (.ireturn, 1) := by decide +kernel
set_option maxRecDepth 100000 in
def f_m_wetBehind (x1 : Int) (x2 : Int) (x3 : Int) (V : Nat → Nat → Int) (J : Nat → Nat → Int) (Rr : Nat → Nat → Nat) : (Int × (Nat → Nat → Int)) → Prop :=
  rdb (cpN V 1 2 81) fun V1 => lop2 (9) (fun rc286 (z285 : Int) (V286 : Nat → Nat → Int) => jnk (fun (un353 : Unit) => calR (f_m_lives x1 V286 J Rr) fun z354 => fct (0 ≤ z354 ∧ z354 ≤ 1) <| jnk (fun (z359 : Int) => rdb (cpN V286 2 1 81) fun V361 => rtn (z359, V361)) fun jf360 => (if z354 = 0 then jf360 ((-1)) else rdb (V286 1 ((x1 + 12).toNat)) fun z364 => fct (0 ≤ z364 ∧ z364 ≤ 8) <| rdb (V286 1 ((x1 + 16).toNat)) fun z365 => fct (0 ≤ z365 ∧ z365 ≤ 8) <| rdb (V286 1 ((x1 + 4).toNat)) fun z366 => fct (0 ≤ z366 ∧ z366 ≤ 24) <| jf360 z366)) fun jf353 => (if 7 ≤ z285 then jf353 (()) else calR (f_m_lives x1 V286 J Rr) fun z368 => fct (0 ≤ z368 ∧ z368 ≤ 1) <| (if z368 = 0 then jf353 (()) else rdb (V286 1 ((x1 + 12).toNat)) fun z371 => fct (0 ≤ z371 ∧ z371 ≤ 8) <| rdb (V286 1 ((x1 + 16).toNat)) fun z372 => fct (0 ≤ z372 ∧ z372 ≤ 8) <| calR (f_m_comingIn x3 x2 z285) fun z373 => fct (0 ≤ z373 ∧ z373 ≤ 3) <| (if x2 ≤ z373 then calUM 7253591811175922467340288 V286 (f_m_dries x1 0 V286 J Rr) fun V375 => rdb (V375 1 79) fun z376 => rdb (wr (z376 + 1)) fun z377 => rdb (up2 V375 1 79 z377) fun V378 => rc286 (z285 + 1) V378 else rdb (V286 20 z373.toNat) fun z379 => fct (0 ≤ z379 ∧ z379 ≤ 7) <| calUM 16924998368092956267642880 V286 (f_m_waters z379 x1 V286 J Rr) fun V380 => calUM 7253591811175922467340288 V380 (f_m_dries x1 0 V380 J Rr) fun V381 => rdb (V381 1 79) fun z382 => rdb (wr (z382 + 1)) fun z383 => rdb (up2 V381 1 79 z383) fun V384 => rc286 (z285 + 1) V384)))) 0 V1
set_option maxHeartbeats 8000000 in
set_option maxRecDepth 100000 in
theorem m_wetBehind (l : Launch) (D : va_G) (cy : Nat → ClassId) (ad : Nat → Nat) (G : Nat → Nat → Int) (V J : Nat → Nat → Int) (Rr : Nat → Nat → Nat) (hI : MI G V) (hJ : VJ J) (hR : MR Rr) (x1 : Int) (bx1 : 0 ≤ x1 ∧ x1 ≤ 3) (x2 : Int) (bx2 : 1 ≤ x2 ∧ x2 ≤ 3) (x3 : Int) (bx3 : 0 ≤ x3 ∧ x3 ≤ 2147483647) (hW : WP G) : xMi l D (xTY cy) yX12_wetBehind cX12_wetBehind 6 (some .int) 5 120 0 0 [.ref (ad 0), vI x1, vI x2, vI x3] (MW cy ad V J Rr) (fun u : Nat → Nat → Int => MW cy ad u J Rr) (fun a (u : Nat → Nat → Int) => MI G u ∧ FBm 16925072155069251105849344 V u ∧ (f_m_wetBehind x1 x2 x3 V J Rr) (a, u)) := by
  refine xMi.mk (lv0 := [(0, .ref (ad 0)), (1, vI x1), (2, vI x2), (3, vI x3)]) (by decide) rfl (Nat.le_of_ble_eq_true rfl) (fun p e s m below meth c A C hr hnm hAe => ?_)
  have C : xC2 p s m _ meth c D A s.heap 6 cX12_wetBehind RX12 (xTY cy) := C
  have hB : FBm 16925072155069251105849344 V V := FBm.rf _ _
  have hF := Imp.of_eq (f_m_wetBehind.eq_def x1 x2 x3 V J Rr)
  refine x_aload_n C.1 dX12_wetBehind_0 0 rfl ?_
  refine x_getA C (N := 33) (i := 0) (by decide) rfl vc_X12 wx_X12 0 (by decide) wf_X12_7 (a := 1) rfl dX12_wetBehind_1 ?_
  refine x_aload_n C.1 dX12_wetBehind_4 0 rfl ?_
  refine x_getA C (N := 33) (i := 0) (by decide) rfl vc_X12 wx_X12 1 (by decide) wf_X12_13 (a := 2) rfl dX12_wetBehind_5 ?_
  refine x_callSv C (As := [.ref (ad 1), .ref (ad 2)]) (rest := []) (c_copies l D cy ad V J Rr hI.vr hJ 1 2 (by decide) (by decide) rfl rfl (by decide)) (l1 := []) (l2 := []) (List.append_nil _).symm (w2 := fun u : xS => MW cy ad u.1 u.2.1 u.2.2) (fun _ => List.append_nil _) rfl wm_yX12_copies wn_X12 wl_X12_294 wi_yX12_copies hd_yX12_copies rfl ⟨Nat.le_of_ble_eq_true rfl, Nat.le_of_ble_eq_true rfl⟩ (Nat.le_of_ble_eq_true rfl) ⟨Nat.le_of_ble_eq_true rfl, Nat.le_of_ble_eq_true rfl⟩ dX12_wetBehind_8 (fun u1 h1 => ?_)
  subst h1
  dsimp only
  refine x_gV ?_
  intro V1 hV1
  have hI1 : MI G V1 := MI.cp hI hV1 (by decide) (by decide)
  have hB1 := hB.cp hV1 (fun _ => by rw [mkey_r (by decide)]; rfl)
  replace hF := hF.to (rdb_e (z := V1) hV1.symm)
  refine x_iconst C.1 (n := 0) dX12_wetBehind_11 ?_
  refine x_istore C.1 (lv' := [(4, vI 0), (0, .ref (ad 0)), (1, vI x1), (2, vI x2), (3, vI x3)]) dX12_wetBehind_12 (by decide) rfl ?_
  obtain ⟨bd286, hbd286, hF⟩ := lop2_ex hF
  refine x_loop (I := fun x : Int × (Nat → Nat → Int) => match x with | (z285, V286) => (0 ≤ z285 ∧ z285 ≤ 7) ∧ MI G V286 ∧ FBm 16925072155069251105849344 V V286 ∧ (∃ nf : Nat, (8 - z285).toNat < nf ∧ Imp (lop2 nf bd286 z285 V286) (f_m_wetBehind x1 x2 x3 V J Rr))) (μ := fun x : Int × (Nat → Nat → Int) => match x with | (z285, V286) => (8 - z285).toNat) (wsf := fun x : Int × (Nat → Nat → Int) => match x with | (z285, V286) => MW cy ad V286 J Rr) (lvf := fun x : Int × (Nat → Nat → Int) => match x with | (z285, V286) => [(4, vI z285), (0, .ref (ad 0)), (1, vI x1), (2, vI x2), (3, vI x3)]) (fun x hI286x ih286 => ?_) (0, V1) ⟨⟨by decide, by decide⟩, hI1, hB1, ⟨_, (by omega), hF⟩⟩ rfl rfl
  obtain ⟨z285, V286⟩ := x
  obtain ⟨bz285, hI286, hB286, nf286, hn286, hF⟩ := hI286x
  try dsimp only
  obtain ⟨nf286, rfl⟩ : ∃ mm, nf286 = mm + 1 := ⟨nf286 - 1, (Nat.succ_pred_eq_of_pos (Nat.lt_of_le_of_lt (Nat.zero_le _) hn286)).symm⟩
  replace hF := hF.to (lop2_s hbd286)
  refine x_iload C.1 dX12_wetBehind_14 0 rfl ?_
  refine x_bipush C.1 (n := 7) dX12_wetBehind_16 ?_
  obtain ⟨jf353, hjf353, hF⟩ := jn_ex hF
  refine x_join (I := fun un353 : Unit => True ∧ Imp (jf353 un353) (f_m_wetBehind x1 x2 x3 V J Rr)) (wsf := fun un353 : Unit => MW cy ad V286 J Rr) (lvf := fun un353 : Unit => [(4, vI z285), (0, .ref (ad 0)), (1, vI x1), (2, vI x2), (3, vI x3)]) (stf := fun un353 : Unit => []) 84 (fun un353 hI353x => ?_) (fun jn353 => ?_)
  · obtain ⟨_, hF⟩ := hI353x
    try dsimp only
    replace hF := hF.to (jn_s1 hjf353)
    refine x_aload_n C.1 dX12_wetBehind_84 1 rfl ?_
    refine x_iload_n C.1 dX12_wetBehind_85 2 rfl ?_
    refine x_callVi C (As := [vI x1]) (rest := []) 0 (xw_at (N := 33) (i := 0) (by decide) rfl) vc_X12 (m_lives l D cy ad G V286 J Rr hI286 hJ hR x1 ⟨by omega, by omega⟩) (l1 := []) (l2 := []) (List.append_nil _).symm (w2 := fun _ => MW cy ad V286 J Rr) (fun _ => List.append_nil _) rfl wm_yX12_lives wn_X12 wl_X12_130 wi_yX12_lives we_yX12_lives hd_yX12_lives rfl ⟨Nat.le_of_ble_eq_true rfl, Nat.le_of_ble_eq_true rfl⟩ (Nat.le_of_ble_eq_true rfl) ⟨Nat.le_of_ble_eq_true rfl, Nat.le_of_ble_eq_true rfl⟩ dX12_wetBehind_86 (fun z354 u354 bz354 h354 => ?_)
    obtain ⟨bq354, hx354_0, hFc354⟩ := h354
    replace hF := calR_i hF hFc354
    replace hF := hF.fc bq354
    obtain ⟨jf360, hjf360, hF⟩ := jn_ex hF
    refine x_join (I := fun z359 : Int => (-1 ≤ z359 ∧ z359 ≤ 24) ∧ Imp (jf360 z359) (f_m_wetBehind x1 x2 x3 V J Rr)) (wsf := fun z359 : Int => MW cy ad V286 J Rr) (lvf := fun z359 : Int => [(4, vI z285), (0, .ref (ad 0)), (1, vI x1), (2, vI x2), (3, vI x3)]) (stf := fun z359 : Int => [vI z359]) 104 (fun z359 hI360x => ?_) (fun jn360 => ?_)
    · obtain ⟨bz359, hF⟩ := hI360x
      try dsimp only
      replace hF := hF.to (jn_s1 hjf360)
      refine x_istore C.1 (lv' := [(4, vI z359), (0, .ref (ad 0)), (1, vI x1), (2, vI x2), (3, vI x3)]) dX12_wetBehind_104 (by decide) rfl ?_
      refine x_aload_n C.1 dX12_wetBehind_106 1 rfl ?_
      refine x_getA C (N := 33) (i := 0) (by decide) rfl vc_X12 wx_X12 1 (by decide) wf_X12_13 (a := 2) rfl dX12_wetBehind_107 ?_
      refine x_aload_n C.1 dX12_wetBehind_110 1 rfl ?_
      refine x_getA C (N := 33) (i := 0) (by decide) rfl vc_X12 wx_X12 0 (by decide) wf_X12_7 (a := 1) rfl dX12_wetBehind_111 ?_
      refine x_callSv C (As := [.ref (ad 2), .ref (ad 1)]) (rest := []) (c_copies l D cy ad V286 J Rr hI286.vr hJ 2 1 (by decide) (by decide) rfl rfl (by decide)) (l1 := []) (l2 := []) (List.append_nil _).symm (w2 := fun u : xS => MW cy ad u.1 u.2.1 u.2.2) (fun _ => List.append_nil _) rfl wm_yX12_copies wn_X12 wl_X12_294 wi_yX12_copies hd_yX12_copies rfl ⟨Nat.le_of_ble_eq_true rfl, Nat.le_of_ble_eq_true rfl⟩ (Nat.le_of_ble_eq_true rfl) ⟨Nat.le_of_ble_eq_true rfl, Nat.le_of_ble_eq_true rfl⟩ dX12_wetBehind_114 (fun u361 h361 => ?_)
      subst h361
      dsimp only
      refine x_gV ?_
      intro V361 hV361
      have hI361 : MI G V361 := MI.cp hI286 hV361 (by decide) (by decide)
      have hB361 := hB286.cp hV361 (fun _ => by rw [mkey_r (by decide)]; rfl)
      replace hF := hF.to (rdb_e (z := V361) hV361.symm)
      refine x_iload C.1 dX12_wetBehind_117 0 rfl ?_
      exact x_iret (S := (Nat → Nat → Int)) (post := (fun a (u : Nat → Nat → Int) => MI G u ∧ FBm 16925072155069251105849344 V u ∧ (f_m_wetBehind x1 x2 x3 V J Rr) (a, u))) (w1 := (fun u : Nat → Nat → Int => MW cy ad u J Rr)) (a := z359) C hr rfl dX12_wetBehind_119 (by omega) V361 rfl ⟨hI361, hB361, hF _ rfl⟩
    · refine x_if_eq C.1 (tgt := 103) dX12_wetBehind_89 (by decide) (by omega) (fun hc362 => ?_) (fun hc362 => ?_)
      · replace hF := hF.to (if_pos hc362)
        refine x_iconst C.1 (n := -1) dX12_wetBehind_103 ?_
        exact jn360 ((-1)) ⟨⟨by decide, by decide⟩, hF⟩
      · replace hF := hF.to (if_neg hc362)
        have hon363 := Sp.on hx354_0 (by omega)
        obtain ⟨z364, ez364, bz364⟩ := hI286.rd 1 ((x1 + 12).toNat) (x := 0) (y := 9) (rgN_20 (Or.inl rfl) (by omega))
        have by364 : z364 ≤ 8 := by rw [← ez364, show (x1 + 12).toNat = 12 + x1.toNat by omega]; exact hon363.2.1
        replace hF := hF.to (rdb_e (z := z364) ez364)
        replace hF := hF.fc ⟨bz364.1, by364⟩
        obtain ⟨z365, ez365, bz365⟩ := hI286.rd 1 ((x1 + 16).toNat) (x := 0) (y := 9) (rgN_20 (Or.inl rfl) (by omega))
        have by365 : z365 ≤ 8 := by rw [← ez365, show (x1 + 16).toNat = 16 + x1.toNat by omega]; exact hon363.2.2
        replace hF := hF.to (rdb_e (z := z365) ez365)
        replace hF := hF.fc ⟨bz365.1, by365⟩
        refine x_aload_n C.1 dX12_wetBehind_92 1 rfl ?_
        refine x_getA C (N := 33) (i := 0) (by decide) rfl vc_X12 wx_X12 0 (by decide) wf_X12_7 (a := 1) rfl dX12_wetBehind_93 ?_
        refine x_iconst C.1 (n := 4) dX12_wetBehind_96 ?_
        refine x_iload_n C.1 dX12_wetBehind_97 2 rfl ?_
        refine x_iadd C.1 (v := x1 + 4) (by omega) dX12_wetBehind_98 ?_
        obtain ⟨z366, ez366, bz366⟩ := hI286.rd 1 ((x1 + 4).toNat) (x := 0) (y := 24) (rgN_8 (Or.inl rfl) (by omega))
        replace hF := hF.to (rdb_e (z := z366) ez366)
        replace hF := hF.fc bz366
        refine x_iald C (N := 33) (i := 1) (q := x1 + 4) (by decide) rfl (by omega) (by decide) dX12_wetBehind_99 (a := z366) ez366 ?_
        refine x_goto C.1 (tgt := 104) dX12_wetBehind_100 (by decide) ?_
        exact jn360 z366 ⟨⟨by omega, by omega⟩, hF⟩
  · refine x_icmp_ge C.1 (tgt := 84) dX12_wetBehind_18 (by decide) (by omega) (by decide) (fun hc367 => ?_) (fun hc367 => ?_)
    · replace hF := hF.to (if_pos hc367)
      exact jn353 (()) ⟨trivial, hF⟩
    · replace hF := hF.to (if_neg hc367)
      refine x_aload_n C.1 dX12_wetBehind_21 1 rfl ?_
      refine x_iload_n C.1 dX12_wetBehind_22 2 rfl ?_
      refine x_callVi C (As := [vI x1]) (rest := []) 0 (xw_at (N := 33) (i := 0) (by decide) rfl) vc_X12 (m_lives l D cy ad G V286 J Rr hI286 hJ hR x1 ⟨by omega, by omega⟩) (l1 := []) (l2 := []) (List.append_nil _).symm (w2 := fun _ => MW cy ad V286 J Rr) (fun _ => List.append_nil _) rfl wm_yX12_lives wn_X12 wl_X12_130 wi_yX12_lives we_yX12_lives hd_yX12_lives rfl ⟨Nat.le_of_ble_eq_true rfl, Nat.le_of_ble_eq_true rfl⟩ (Nat.le_of_ble_eq_true rfl) ⟨Nat.le_of_ble_eq_true rfl, Nat.le_of_ble_eq_true rfl⟩ dX12_wetBehind_23 (fun z368 u368 bz368 h368 => ?_)
      obtain ⟨bq368, hx368_0, hFc368⟩ := h368
      replace hF := calR_i hF hFc368
      replace hF := hF.fc bq368
      refine x_if_eq C.1 (tgt := 84) dX12_wetBehind_26 (by decide) (by omega) (fun hc369 => ?_) (fun hc369 => ?_)
      · replace hF := hF.to (if_pos hc369)
        exact jn353 (()) ⟨trivial, hF⟩
      · replace hF := hF.to (if_neg hc369)
        have hon370 := Sp.on hx368_0 (by omega)
        obtain ⟨z371, ez371, bz371⟩ := hI286.rd 1 ((x1 + 12).toNat) (x := 0) (y := 9) (rgN_20 (Or.inl rfl) (by omega))
        have by371 : z371 ≤ 8 := by rw [← ez371, show (x1 + 12).toNat = 12 + x1.toNat by omega]; exact hon370.2.1
        replace hF := hF.to (rdb_e (z := z371) ez371)
        replace hF := hF.fc ⟨bz371.1, by371⟩
        obtain ⟨z372, ez372, bz372⟩ := hI286.rd 1 ((x1 + 16).toNat) (x := 0) (y := 9) (rgN_20 (Or.inl rfl) (by omega))
        have by372 : z372 ≤ 8 := by rw [← ez372, show (x1 + 16).toNat = 16 + x1.toNat by omega]; exact hon370.2.2
        replace hF := hF.to (rdb_e (z := z372) ez372)
        replace hF := hF.fc ⟨bz372.1, by372⟩
        refine x_iload_n C.1 dX12_wetBehind_29 4 rfl ?_
        refine x_iload_n C.1 dX12_wetBehind_30 3 rfl ?_
        refine x_iload C.1 dX12_wetBehind_31 0 rfl ?_
        refine x_callSi C (As := [vI x3, vI x2, vI z285]) (rest := []) (m_comingIn l D cy x3 ⟨by omega, by omega⟩ x2 ⟨by omega, by omega⟩ z285 ⟨by omega, by omega⟩) (l1 := []) (l2 := _) rfl (w2 := fun _ => _) (fun _ => rfl) rfl wm_yX12_comingIn wn_X12 wl_X12_365 wi_yX12_comingIn hd_yX12_comingIn rfl ⟨Nat.le_of_ble_eq_true rfl, Nat.le_of_ble_eq_true rfl⟩ (Nat.le_of_ble_eq_true rfl) ⟨Nat.le_of_ble_eq_true rfl, Nat.le_of_ble_eq_true rfl⟩ dX12_wetBehind_33 (fun z373 u373 bz373 h373 => ?_)
        obtain ⟨bq373, hFc373⟩ := h373
        replace hF := calR_i hF hFc373
        replace hF := hF.fc bq373
        refine x_istore C.1 (lv' := [(5, vI z373), (4, vI z285), (0, .ref (ad 0)), (1, vI x1), (2, vI x2), (3, vI x3)]) dX12_wetBehind_36 (by decide) rfl ?_
        refine x_iload C.1 dX12_wetBehind_38 0 rfl ?_
        refine x_iload_n C.1 dX12_wetBehind_40 4 rfl ?_
        refine x_icmp_ge C.1 (tgt := 56) dX12_wetBehind_41 (by decide) (by omega) (by omega) (fun hc374 => ?_) (fun hc374 => ?_)
        · replace hF := hF.to (if_pos hc374)
          refine x_aload_n C.1 dX12_wetBehind_56 2 rfl ?_
          refine x_iload_n C.1 dX12_wetBehind_57 3 rfl ?_
          refine x_iconst C.1 (n := 0) dX12_wetBehind_58 ?_
          refine x_callVv C (As := [vI x1, vI 0]) (rest := []) 0 (xw_at (N := 33) (i := 0) (by decide) rfl) vc_X12 (m_dries l D cy ad G V286 J Rr (KI.self hI286) hJ hR x1 ⟨by omega, by omega⟩ 0 ⟨by decide, by decide⟩ hW ⟨by rw [show 12 + x1.toNat = (x1 + 12).toNat by omega, ez371]; omega, by rw [show 16 + x1.toNat = (x1 + 16).toNat by omega, ez372]; omega⟩) (l1 := []) (l2 := []) (List.append_nil _).symm (w2 := fun u : Nat → Nat → Int => MW cy ad u J Rr) (fun _ => List.append_nil _) rfl wm_yX12_dries wn_X12 wl_X12_284 wi_yX12_dries we_yX12_dries hd_yX12_dries rfl ⟨Nat.le_of_ble_eq_true rfl, Nat.le_of_ble_eq_true rfl⟩ (Nat.le_of_ble_eq_true rfl) ⟨Nat.le_of_ble_eq_true rfl, Nat.le_of_ble_eq_true rfl⟩ dX12_wetBehind_59 (fun V375 h375 => ?_)
          obtain ⟨hI375, hBc375, hFc375⟩ := h375
          replace hF := calUM_i hF hFc375 hBc375
          have hB375 := hB286.tr hBc375 (m := 7253591811175922467340288) rfl
          have hI375c := hI375.1
          refine x_aload_n C.1 dX12_wetBehind_62 2 rfl ?_
          refine x_getA C (N := 33) (i := 0) (by decide) rfl vc_X12 wx_X12 0 (by decide) wf_X12_7 (a := 1) rfl dX12_wetBehind_63 ?_
          refine x_bipush C.1 (n := 79) dX12_wetBehind_66 ?_
          refine x_aload_n C.1 dX12_wetBehind_68 2 rfl ?_
          refine x_getA C (N := 33) (i := 0) (by decide) rfl vc_X12 wx_X12 0 (by decide) wf_X12_7 (a := 1) rfl dX12_wetBehind_69 ?_
          refine x_bipush C.1 (n := 79) dX12_wetBehind_72 ?_
          obtain ⟨z376, ez376, bz376⟩ := hI375c.rd 1 79 (x := -2147483648) (y := 2147483647) (rgN_81 (Or.inl rfl) (by decide))
          replace hF := hF.to (rdb_e (z := z376) ez376)
          refine x_iald C (N := 33) (i := 1) (q := 79) (by decide) rfl (by decide) (by decide) dX12_wetBehind_74 (a := z376) ez376 ?_
          refine x_iconst C.1 (n := 1) dX12_wetBehind_75 ?_
          refine x_iadd C.1 (v := z376 + 1) (by omega) dX12_wetBehind_76 ?_
          refine x_wrapg ?_
          intro z377 bz377 ew377
          replace hF := hF.to (rdb_e (z := z377) ew377.symm)
          refine x_iast C (N := 33) (i := 1) (q := 79) (a := z377) (by decide) rfl (by decide) (by decide) dX12_wetBehind_77 ?_
          rw [show (79 : Int).toNat = 79 from rfl]
          refine x_gV ?_
          intro V378 hV378
          have hI378 : MI G V378 := hI375c.up hV378 (rgN_81 (Or.inl rfl) (by decide)) (by omega) rfl (Or.inr (by decide))
          have hB378 := hB375.up hV378 (by rw [mkey_r (by decide)]; rfl)
          replace hF := hF.to (rdb_e (z := V378) hV378.symm)
          refine x_iinc C.1 (v := z285 + 1) (lv' := [(4, vI (z285 + 1)), (5, vI z373), (0, .ref (ad 0)), (1, vI x1), (2, vI x2), (3, vI x3)]) (by omega) dX12_wetBehind_78 1 rfl (by decide) rfl ?_
          refine x_goto C.1 (tgt := 14) dX12_wetBehind_81 (by decide) ?_
          refine x_lv [(4, vI (z285 + 1)), (0, .ref (ad 0)), (1, vI x1), (2, vI x2), (3, vI x3)] [0, 2, 3, 4, 5] rfl ?_
          have hmu286 : (8 - (z285 + 1)).toNat < (8 - z285).toNat := (by omega)
          exact ih286 (z285 + 1, V378) ⟨⟨by omega, by omega⟩, hI378, hB378, ⟨nf286, Nat.lt_of_lt_of_le hmu286 (Nat.le_of_lt_succ hn286), hF⟩⟩ hmu286
        · replace hF := hF.to (if_neg hc374)
          refine x_aload_n C.1 dX12_wetBehind_44 2 rfl ?_
          refine x_aload_n C.1 dX12_wetBehind_45 2 rfl ?_
          refine x_getA C (N := 33) (i := 0) (by decide) rfl vc_X12 wx_X12 35 (by decide) wf_X12_68 (a := 20) rfl dX12_wetBehind_46 ?_
          refine x_iload C.1 dX12_wetBehind_49 0 rfl ?_
          obtain ⟨z379, ez379, bz379⟩ := hI286.rd 20 z373.toNat (x := 0) (y := 7) rfl
          replace hF := hF.to (rdb_e (z := z379) ez379)
          replace hF := hF.fc bz379
          refine x_iald C (N := 33) (i := 20) (q := z373) (by decide) rfl (by omega) (by decide) dX12_wetBehind_51 (a := z379) ez379 ?_
          refine x_iload_n C.1 dX12_wetBehind_52 3 rfl ?_
          refine x_callVv C (As := [vI z379, vI x1]) (rest := []) 0 (xw_at (N := 33) (i := 0) (by decide) rfl) vc_X12 (m_waters l D cy ad G V286 J Rr (KI.self hI286) hJ hR z379 ⟨by omega, by omega⟩ x1 ⟨by omega, by omega⟩ hW) (l1 := []) (l2 := []) (List.append_nil _).symm (w2 := fun u : Nat → Nat → Int => MW cy ad u J Rr) (fun _ => List.append_nil _) rfl wm_yX12_waters wn_X12 wl_X12_278 wi_yX12_waters we_yX12_waters hd_yX12_waters rfl ⟨Nat.le_of_ble_eq_true rfl, Nat.le_of_ble_eq_true rfl⟩ (Nat.le_of_ble_eq_true rfl) ⟨Nat.le_of_ble_eq_true rfl, Nat.le_of_ble_eq_true rfl⟩ dX12_wetBehind_53 (fun V380 h380 => ?_)
          obtain ⟨hI380, hBc380, hFc380⟩ := h380
          replace hF := calUM_i hF hFc380 hBc380
          have hB380 := hB286.tr hBc380 (m := 16924998368092956267642880) rfl
          have hI380c := hI380.1
          refine x_aload_n C.1 dX12_wetBehind_56 2 rfl ?_
          refine x_iload_n C.1 dX12_wetBehind_57 3 rfl ?_
          refine x_iconst C.1 (n := 0) dX12_wetBehind_58 ?_
          refine x_callVv C (As := [vI x1, vI 0]) (rest := []) 0 (xw_at (N := 33) (i := 0) (by decide) rfl) vc_X12 (m_dries l D cy ad G V380 J Rr (KI.self hI380c) hJ hR x1 ⟨by omega, by omega⟩ 0 ⟨by decide, by decide⟩ hW ⟨by rw [show 12 + x1.toNat = (x1 + 12).toNat by omega, ((hI380.2 1 ((x1 + 12).toNat) (Or.inr (Or.inr ⟨rfl, by omega, by omega⟩))).trans ez371)]; omega, by rw [show 16 + x1.toNat = (x1 + 16).toNat by omega, ((hI380.2 1 ((x1 + 16).toNat) (Or.inr (Or.inr ⟨rfl, by omega, by omega⟩))).trans ez372)]; omega⟩) (l1 := []) (l2 := []) (List.append_nil _).symm (w2 := fun u : Nat → Nat → Int => MW cy ad u J Rr) (fun _ => List.append_nil _) rfl wm_yX12_dries wn_X12 wl_X12_284 wi_yX12_dries we_yX12_dries hd_yX12_dries rfl ⟨Nat.le_of_ble_eq_true rfl, Nat.le_of_ble_eq_true rfl⟩ (Nat.le_of_ble_eq_true rfl) ⟨Nat.le_of_ble_eq_true rfl, Nat.le_of_ble_eq_true rfl⟩ dX12_wetBehind_59 (fun V381 h381 => ?_)
          obtain ⟨hI381, hBc381, hFc381⟩ := h381
          replace hF := calUM_i hF hFc381 hBc381
          have hB381 := hB380.tr hBc381 (m := 7253591811175922467340288) rfl
          have hI381c := hI381.1
          refine x_aload_n C.1 dX12_wetBehind_62 2 rfl ?_
          refine x_getA C (N := 33) (i := 0) (by decide) rfl vc_X12 wx_X12 0 (by decide) wf_X12_7 (a := 1) rfl dX12_wetBehind_63 ?_
          refine x_bipush C.1 (n := 79) dX12_wetBehind_66 ?_
          refine x_aload_n C.1 dX12_wetBehind_68 2 rfl ?_
          refine x_getA C (N := 33) (i := 0) (by decide) rfl vc_X12 wx_X12 0 (by decide) wf_X12_7 (a := 1) rfl dX12_wetBehind_69 ?_
          refine x_bipush C.1 (n := 79) dX12_wetBehind_72 ?_
          obtain ⟨z382, ez382, bz382⟩ := hI381c.rd 1 79 (x := -2147483648) (y := 2147483647) (rgN_81 (Or.inl rfl) (by decide))
          replace hF := hF.to (rdb_e (z := z382) ez382)
          refine x_iald C (N := 33) (i := 1) (q := 79) (by decide) rfl (by decide) (by decide) dX12_wetBehind_74 (a := z382) ez382 ?_
          refine x_iconst C.1 (n := 1) dX12_wetBehind_75 ?_
          refine x_iadd C.1 (v := z382 + 1) (by omega) dX12_wetBehind_76 ?_
          refine x_wrapg ?_
          intro z383 bz383 ew383
          replace hF := hF.to (rdb_e (z := z383) ew383.symm)
          refine x_iast C (N := 33) (i := 1) (q := 79) (a := z383) (by decide) rfl (by decide) (by decide) dX12_wetBehind_77 ?_
          rw [show (79 : Int).toNat = 79 from rfl]
          refine x_gV ?_
          intro V384 hV384
          have hI384 : MI G V384 := hI381c.up hV384 (rgN_81 (Or.inl rfl) (by decide)) (by omega) rfl (Or.inr (by decide))
          have hB384 := hB381.up hV384 (by rw [mkey_r (by decide)]; rfl)
          replace hF := hF.to (rdb_e (z := V384) hV384.symm)
          refine x_iinc C.1 (v := z285 + 1) (lv' := [(4, vI (z285 + 1)), (5, vI z373), (0, .ref (ad 0)), (1, vI x1), (2, vI x2), (3, vI x3)]) (by omega) dX12_wetBehind_78 1 rfl (by decide) rfl ?_
          refine x_goto C.1 (tgt := 14) dX12_wetBehind_81 (by decide) ?_
          refine x_lv [(4, vI (z285 + 1)), (0, .ref (ad 0)), (1, vI x1), (2, vI x2), (3, vI x3)] [0, 2, 3, 4, 5] rfl ?_
          have hmu286 : (8 - (z285 + 1)).toNat < (8 - z285).toNat := (by omega)
          exact ih286 (z285 + 1, V384) ⟨⟨by omega, by omega⟩, hI384, hB384, ⟨nf286, Nat.lt_of_lt_of_le hmu286 (Nat.le_of_lt_succ hn286), hF⟩⟩ hmu286
theorem hd_yX12_comings : yX12_comings.cls ≠ "java/lang/invoke/MethodHandle" ∧ yX12_comings.cls ≠ "java/lang/invoke/VarHandle" ∧ (parseMethodDescriptor yX12_comings.desc).map (fun d => d.parameters.length) = some 2 := by decide +kernel
theorem hd_yX12_wetBehind : yX12_wetBehind.cls ≠ "java/lang/invoke/MethodHandle" ∧ yX12_wetBehind.cls ≠ "java/lang/invoke/VarHandle" ∧ (parseMethodDescriptor yX12_wetBehind.desc).map (fun d => d.parameters.length) = some 3 := by decide +kernel
theorem dX12_week_0 : decode cX12_week 0 = .ok (.aload_n 0, 1) := by decide +kernel
theorem dX12_week_1 : decode cX12_week 1 = .ok (.iload_n 1, 1) := by decide +kernel
theorem dX12_week_2 : decode cX12_week 2 = .ok (.invokevirtual 130, 3) := by decide +kernel
theorem dX12_week_5 : decode cX12_week 5 = .ok (.ifCond .eq 41, 3) := by decide +kernel
theorem dX12_week_8 : decode cX12_week 8 = .ok (.iload_n 2, 1) := by decide +kernel
theorem dX12_week_9 : decode cX12_week 9 = .ok (.iconst 1, 1) := by decide +kernel
theorem dX12_week_10 : decode cX12_week 10 = .ok (.iconst 3, 1) := by decide +kernel
theorem dX12_week_11 : decode cX12_week 11 = .ok (.invokestatic 126, 3) := by decide +kernel
theorem dX12_week_14 : decode cX12_week 14 = .ok (.ifCond .eq 32, 3) := by decide +kernel
theorem dX12_week_17 : decode cX12_week 17 = .ok (.iload_n 3, 1) := by decide +kernel
theorem dX12_week_18 : decode cX12_week 18 = .ok (.bipush 10, 2) := by decide +kernel
theorem dX12_week_20 : decode cX12_week 20 = .ok (.bipush 11, 2) := by decide +kernel
theorem dX12_week_22 : decode cX12_week 22 = .ok (.invokestatic 126, 3) := by decide +kernel
theorem dX12_week_25 : decode cX12_week 25 = .ok (.ifCond .ne 13, 3) := by decide +kernel
theorem dX12_week_28 : decode cX12_week 28 = .ok (.iload_n 3, 1) := by decide +kernel
theorem dX12_week_29 : decode cX12_week 29 = .ok (.iconst 0, 1) := by decide +kernel
theorem dX12_week_30 : decode cX12_week 30 = .ok (.bipush 6, 2) := by decide +kernel
theorem dX12_week_32 : decode cX12_week 32 = .ok (.invokestatic 126, 3) := by decide +kernel
theorem dX12_week_35 : decode cX12_week 35 = .ok (.ifCond .eq 11, 3) := by decide +kernel
theorem dX12_week_38 : decode cX12_week 38 = .ok (.aload_n 0, 1) := by decide +kernel
theorem dX12_week_39 : decode cX12_week 39 = .ok (.iload_n 2, 1) := by decide +kernel
theorem dX12_week_40 : decode cX12_week 40 = .ok (.invokevirtual 339, 3) := by decide +kernel
theorem dX12_week_43 : decode cX12_week 43 = .ok (.ifCond .ne 5, 3) := by decide +kernel
theorem dX12_week_46 : decode cX12_week 46 = .ok (.iconst (-1), 1) := by decide +kernel
theorem dX12_week_47 : decode cX12_week 47 = .ok (.ireturn, 1) := by decide +kernel
theorem dX12_week_48 : decode cX12_week 48 = .ok (.iconst 1, 1) := by decide +kernel
theorem dX12_week_49 : decode cX12_week 49 = .ok (.istore 4, 2) := by decide +kernel
theorem dX12_week_51 : decode cX12_week 51 = .ok (.iconst 0, 1) := by decide +kernel
theorem dX12_week_52 : decode cX12_week 52 = .ok (.istore 5, 2) := by decide +kernel
theorem dX12_week_54 : decode cX12_week 54 = .ok (.iload 5, 2) := by decide +kernel
theorem dX12_week_56 : decode cX12_week 56 = .ok (.bipush 7, 2) := by decide +kernel
theorem dX12_week_58 : decode cX12_week 58 = .ok (.if_icmp .ge 17, 3) := by decide +kernel
theorem dX12_week_61 : decode cX12_week 61 = .ok (.iload 4, 2) := by decide +kernel
theorem dX12_week_63 : decode cX12_week 63 = .ok (.iload_n 2, 1) := by decide +kernel
theorem dX12_week_64 : decode cX12_week 64 = .ok (.iconst 1, 1) := by decide +kernel
theorem dX12_week_65 : decode cX12_week 65 = .ok (.iadd, 1) := by decide +kernel
theorem dX12_week_66 : decode cX12_week 66 = .ok (.imul, 1) := by decide +kernel
theorem dX12_week_67 : decode cX12_week 67 = .ok (.istore 4, 2) := by decide +kernel
theorem dX12_week_69 : decode cX12_week 69 = .ok (.iinc 5 1, 3) := by decide +kernel
theorem dX12_week_72 : decode cX12_week 72 = .ok (.goto (-18), 3) := by decide +kernel
theorem dX12_week_75 : decode cX12_week 75 = .ok (.iconst (-1), 1) := by decide +kernel
theorem dX12_week_76 : decode cX12_week 76 = .ok (.istore 5, 2) := by decide +kernel
theorem dX12_week_78 : decode cX12_week 78 = .ok (.iconst 0, 1) := by decide +kernel
theorem dX12_week_79 : decode cX12_week 79 = .ok (.istore 6, 2) := by decide +kernel
theorem dX12_week_81 : decode cX12_week 81 = .ok (.iload 6, 2) := by decide +kernel
theorem dX12_week_83 : decode cX12_week 83 = .ok (.iload 4, 2) := by decide +kernel
theorem dX12_week_85 : decode cX12_week 85 = .ok (.if_icmp .ge 49, 3) := by decide +kernel
theorem dX12_week_88 : decode cX12_week 88 = .ok (.iload 5, 2) := by decide +kernel
theorem dX12_week_90 : decode cX12_week 90 = .ok (.iconst (-1), 1) := by decide +kernel
theorem dX12_week_91 : decode cX12_week 91 = .ok (.if_icmp .eq 21, 3) := by decide +kernel
theorem dX12_week_94 : decode cX12_week 94 = .ok (.iload 6, 2) := by decide +kernel
theorem dX12_week_96 : decode cX12_week 96 = .ok (.iload_n 2, 1) := by decide +kernel
theorem dX12_week_97 : decode cX12_week 97 = .ok (.invokestatic 368, 3) := by decide +kernel
theorem dX12_week_100 : decode cX12_week 100 = .ok (.iload 5, 2) := by decide +kernel
theorem dX12_week_102 : decode cX12_week 102 = .ok (.iload_n 2, 1) := by decide +kernel
theorem dX12_week_103 : decode cX12_week 103 = .ok (.invokestatic 368, 3) := by decide +kernel
theorem dX12_week_106 : decode cX12_week 106 = .ok (.if_icmp .lt 6, 3) := by decide +kernel
theorem dX12_week_109 : decode cX12_week 109 = .ok (.goto 19, 3) := by decide +kernel
theorem dX12_week_112 : decode cX12_week 112 = .ok (.aload_n 0, 1) := by decide +kernel
theorem dX12_week_113 : decode cX12_week 113 = .ok (.iload_n 1, 1) := by decide +kernel
theorem dX12_week_114 : decode cX12_week 114 = .ok (.iload_n 2, 1) := by decide +kernel
theorem dX12_week_115 : decode cX12_week 115 = .ok (.iload 6, 2) := by decide +kernel
theorem dX12_week_117 : decode cX12_week 117 = .ok (.invokevirtual 371, 3) := by decide +kernel
theorem dX12_week_120 : decode cX12_week 120 = .ok (.iconst (-1), 1) := by decide +kernel
theorem dX12_week_121 : decode cX12_week 121 = .ok (.if_icmp .eq 7, 3) := by decide +kernel
theorem dX12_week_124 : decode cX12_week 124 = .ok (.iload 6, 2) := by decide +kernel
theorem dX12_week_126 : decode cX12_week 126 = .ok (.istore 5, 2) := by decide +kernel
theorem dX12_week_128 : decode cX12_week 128 = .ok (.iinc 6 1, 3) := by decide +kernel
theorem dX12_week_131 : decode cX12_week 131 = .ok (.goto (-50), 3) := by decide +kernel
theorem dX12_week_134 : decode cX12_week 134 = .ok (.iload 5, 2) := by decide +kernel
theorem dX12_week_136 : decode cX12_week 136 = .ok (.iconst (-1), 1) := by decide +kernel
theorem dX12_week_137 : decode cX12_week 137 = .ok (.if_icmp .ne 6, 3) := by decide +kernel
theorem dX12_week_140 : decode cX12_week 140 = .ok (.bipush (-2), 2) := by decide +kernel
theorem dX12_week_142 : decode cX12_week 142 = .ok (.ireturn, 1) := by decide +kernel
theorem dX12_week_143 : decode cX12_week 143 = .ok (.iload_n 3, 1) := by decide +kernel
theorem dX12_week_144 : decode cX12_week 144 = .ok (.bipush 9, 2) := by decide +kernel
theorem dX12_week_146 : decode cX12_week 146 = .ok (.if_icmp .le 27, 3) := by decide +kernel
theorem dX12_week_149 : decode cX12_week 149 = .ok (.iload_n 3, 1) := by decide +kernel
theorem dX12_week_150 : decode cX12_week 150 = .ok (.bipush 10, 2) := by decide +kernel
theorem dX12_week_152 : decode cX12_week 152 = .ok (.if_icmp .ne 12, 3) := by decide +kernel
theorem dX12_week_155 : decode cX12_week 155 = .ok (.iload 5, 2) := by decide +kernel
theorem dX12_week_157 : decode cX12_week 157 = .ok (.iload_n 2, 1) := by decide +kernel
theorem dX12_week_158 : decode cX12_week 158 = .ok (.invokestatic 368, 3) := by decide +kernel
theorem dX12_week_161 : decode cX12_week 161 = .ok (.goto 11, 3) := by decide +kernel
theorem dX12_week_164 : decode cX12_week 164 = .ok (.aload_n 0, 1) := by decide +kernel
theorem dX12_week_165 : decode cX12_week 165 = .ok (.iload_n 1, 1) := by decide +kernel
theorem dX12_week_166 : decode cX12_week 166 = .ok (.iload_n 2, 1) := by decide +kernel
theorem dX12_week_167 : decode cX12_week 167 = .ok (.iload 5, 2) := by decide +kernel
theorem dX12_week_169 : decode cX12_week 169 = .ok (.invokevirtual 371, 3) := by decide +kernel
theorem dX12_week_172 : decode cX12_week 172 = .ok (.ireturn, 1) := by decide +kernel
theorem dX12_week_173 : decode cX12_week 173 = .ok (.iload 5, 2) := by decide +kernel
theorem dX12_week_175 : decode cX12_week 175 = .ok (.iload_n 2, 1) := by decide +kernel
theorem dX12_week_176 : decode cX12_week 176 = .ok (.iload_n 3, 1) := by decide +kernel
theorem dX12_week_177 : decode cX12_week 177 = .ok (.invokestatic 365, 3) := by decide +kernel
theorem dX12_week_180 : decode cX12_week 180 = .ok (.istore 6, 2) := by decide +kernel
theorem dX12_week_182 : decode cX12_week 182 = .ok (.iload 6, 2) := by decide +kernel
theorem dX12_week_184 : decode cX12_week 184 = .ok (.iload_n 2, 1) := by decide +kernel
theorem dX12_week_185 : decode cX12_week 185 = .ok (.if_icmp .ne 8, 3) := by decide +kernel
theorem dX12_week_188 : decode cX12_week 188 = .ok (.bipush (-3), 2) := by decide +kernel
theorem dX12_week_190 : decode cX12_week 190 = .ok (.goto 10, 3) := by decide +kernel
theorem dX12_week_193 : decode cX12_week 193 = .ok (.aload_n 0, 1) := by decide +kernel
theorem dX12_week_194 : decode cX12_week 194 = .ok (.getfield 68, 3) := by decide +kernel
theorem dX12_week_197 : decode cX12_week 197 = .ok (.iload 6, 2) := by decide +kernel
theorem dX12_week_199 : decode cX12_week 199 = .ok (.iaload, 1) := by decide +kernel
theorem dX12_week_200 : decode cX12_week 200 = .ok (.ireturn, 1) := by decide +kernel
set_option maxRecDepth 100000 in
def f_m_week (x1 : Int) (x2 : Int) (x3 : Int) (V : Nat → Nat → Int) (J : Nat → Nat → Int) (Rr : Nat → Nat → Nat) : (Int × (Nat → Nat → Int)) → Prop :=
  calR (f_m_lives x1 V J Rr) fun z1 => fct (0 ≤ z1 ∧ z1 ≤ 1) <| (if z1 = 0 then rtn ((-1), V) else rdb (V 1 ((x1 + 12).toNat)) fun z4 => fct (0 ≤ z4 ∧ z4 ≤ 8) <| rdb (V 1 ((x1 + 16).toNat)) fun z5 => fct (0 ≤ z5 ∧ z5 ≤ 8) <| calR (f_m_in x2 1 3) fun z6 => fct (0 ≤ z6 ∧ z6 ≤ 1) <| (if z6 = 0 then rtn ((-1), V) else calR (f_m_in x3 10 11) fun z9 => fct (0 ≤ z9 ∧ z9 ≤ 1) <| (if ¬ z9 = 0 then calVM 58028439341502200385896448 V (f_m_laysSome x2 V J Rr) fun z12 V12 => fct (0 ≤ z12 ∧ z12 ≤ 1) <| (if ¬ z12 = 0 then lop2 (9) (fun rc556 (z554 : Int) (z555 : Int) => (if 7 ≤ z554 then lop3 (2147483649) (fun rc827 (z825 : Int) (z826 : Int) (V827 : Nat → Nat → Int) => (if z555 ≤ z825 then (if ¬ z826 = (-1) then (if ¬ x3 = 10 then calVM 16925072155069251105849344 V827 (f_m_wetBehind x1 x2 z826 V827 J Rr) fun z887 V887 => rtn (z887, V887) else calR (f_m_comings z826 x2) fun z888 => rtn (z888, V827)) else rtn ((-2), V827)) else jnk (fun (z896 : Int) (V897 : Nat → Nat → Int) => rc827 (z825 + 1) z896 V897) fun jf897 => (if z826 = (-1) then calVM 16925072155069251105849344 V827 (f_m_wetBehind x1 x2 z825 V827 J Rr) fun z899 V899 => (if z899 = (-1) then jf897 z826 V899 else jf897 z825 V899) else calR (f_m_comings z825 x2) fun z901 => calR (f_m_comings z826 x2) fun z902 => (if z901 < z902 then calVM 16925072155069251105849344 V827 (f_m_wetBehind x1 x2 z825 V827 J Rr) fun z904 V904 => (if z904 = (-1) then jf897 z826 V904 else jf897 z825 V904) else jf897 z826 V827)))) 0 ((-1)) V12 else rdb (wr (z555 * (x2 + 1))) fun z906 => rc556 (z554 + 1) z906)) 0 1 else rtn ((-1), V12)) else calR (f_m_in x3 0 6) fun z907 => fct (0 ≤ z907 ∧ z907 ≤ 1) <| (if z907 = 0 then rtn ((-1), V) else calVM 58028439341502200385896448 V (f_m_laysSome x2 V J Rr) fun z910 V910 => fct (0 ≤ z910 ∧ z910 ≤ 1) <| (if ¬ z910 = 0 then lop2 (9) (fun rc1454 (z1452 : Int) (z1453 : Int) => (if 7 ≤ z1452 then lop3 (2147483649) (fun rc1725 (z1723 : Int) (z1724 : Int) (V1725 : Nat → Nat → Int) => (if z1453 ≤ z1723 then (if ¬ z1724 = (-1) then calR (f_m_comingIn z1724 x2 x3) fun z1784 => fct (0 ≤ z1784 ∧ z1784 ≤ 3) <| (if ¬ z1784 = x2 then rdb (V1725 20 z1784.toNat) fun z1786 => fct (0 ≤ z1786 ∧ z1786 ≤ 7) <| rtn (z1786, V1725) else rtn ((-3), V1725)) else rtn ((-2), V1725)) else jnk (fun (z1794 : Int) (V1795 : Nat → Nat → Int) => rc1725 (z1723 + 1) z1794 V1795) fun jf1795 => (if z1724 = (-1) then calVM 16925072155069251105849344 V1725 (f_m_wetBehind x1 x2 z1723 V1725 J Rr) fun z1797 V1797 => (if z1797 = (-1) then jf1795 z1724 V1797 else jf1795 z1723 V1797) else calR (f_m_comings z1723 x2) fun z1799 => calR (f_m_comings z1724 x2) fun z1800 => (if z1799 < z1800 then calVM 16925072155069251105849344 V1725 (f_m_wetBehind x1 x2 z1723 V1725 J Rr) fun z1802 V1802 => (if z1802 = (-1) then jf1795 z1724 V1802 else jf1795 z1723 V1802) else jf1795 z1724 V1725)))) 0 ((-1)) V910 else rdb (wr (z1453 * (x2 + 1))) fun z1804 => rc1454 (z1452 + 1) z1804)) 0 1 else rtn ((-1), V910))))))
set_option maxHeartbeats 8000000 in
set_option maxRecDepth 100000 in
theorem m_week (l : Launch) (D : va_G) (cy : Nat → ClassId) (ad : Nat → Nat) (G : Nat → Nat → Int) (V J : Nat → Nat → Int) (Rr : Nat → Nat → Nat) (hI : MI G V) (hJ : VJ J) (hR : MR Rr) (x1 : Int) (bx1 : -2147483648 ≤ x1 ∧ x1 ≤ 2147483647) (x2 : Int) (bx2 : -2147483648 ≤ x2 ∧ x2 ≤ 2147483647) (x3 : Int) (bx3 : -2147483648 ≤ x3 ∧ x3 ≤ 2147483647) (hW : WP G) : xMi l D (xTY cy) yX12_week cX12_week 7 (some .int) 6 145 0 0 [.ref (ad 0), vI x1, vI x2, vI x3] (MW cy ad V J Rr) (fun u : Nat → Nat → Int => MW cy ad u J Rr) (fun a (u : Nat → Nat → Int) => MI G u ∧ FBm 74953511496571451491745792 V u ∧ (f_m_week x1 x2 x3 V J Rr) (a, u)) := by
  refine xMi.mk (lv0 := [(0, .ref (ad 0)), (1, vI x1), (2, vI x2), (3, vI x3)]) (by decide) rfl (Nat.le_of_ble_eq_true rfl) (fun p e s m below meth c A C hr hnm hAe => ?_)
  have C : xC2 p s m _ meth c D A s.heap 7 cX12_week RX12 (xTY cy) := C
  have hB : FBm 74953511496571451491745792 V V := FBm.rf _ _
  have hF := Imp.of_eq (f_m_week.eq_def x1 x2 x3 V J Rr)
  refine x_aload_n C.1 dX12_week_0 0 rfl ?_
  refine x_iload_n C.1 dX12_week_1 1 rfl ?_
  refine x_callVi C (As := [vI x1]) (rest := []) 0 (xw_at (N := 33) (i := 0) (by decide) rfl) vc_X12 (m_lives l D cy ad G V J Rr hI hJ hR x1 ⟨by omega, by omega⟩) (l1 := []) (l2 := []) (List.append_nil _).symm (w2 := fun _ => MW cy ad V J Rr) (fun _ => List.append_nil _) rfl wm_yX12_lives wn_X12 wl_X12_130 wi_yX12_lives we_yX12_lives hd_yX12_lives rfl ⟨Nat.le_of_ble_eq_true rfl, Nat.le_of_ble_eq_true rfl⟩ (Nat.le_of_ble_eq_true rfl) ⟨Nat.le_of_ble_eq_true rfl, Nat.le_of_ble_eq_true rfl⟩ dX12_week_2 (fun z1 u1 bz1 h1 => ?_)
  obtain ⟨bq1, hx1_0, hFc1⟩ := h1
  replace hF := calR_i hF hFc1
  replace hF := hF.fc bq1
  refine x_if_eq C.1 (tgt := 46) dX12_week_5 (by decide) (by omega) (fun hc2 => ?_) (fun hc2 => ?_)
  · replace hF := hF.to (if_pos hc2)
    refine x_iconst C.1 (n := -1) dX12_week_46 ?_
    exact x_iret (S := (Nat → Nat → Int)) (post := (fun a (u : Nat → Nat → Int) => MI G u ∧ FBm 74953511496571451491745792 V u ∧ (f_m_week x1 x2 x3 V J Rr) (a, u))) (w1 := (fun u : Nat → Nat → Int => MW cy ad u J Rr)) (a := (-1)) C hr rfl dX12_week_47 (by decide) V rfl ⟨hI, hB, hF _ rfl⟩
  · replace hF := hF.to (if_neg hc2)
    have hon3 := Sp.on hx1_0 (by omega)
    obtain ⟨z4, ez4, bz4⟩ := hI.rd 1 ((x1 + 12).toNat) (x := 0) (y := 9) (rgN_20 (Or.inl rfl) (by omega))
    have by4 : z4 ≤ 8 := by rw [← ez4, show (x1 + 12).toNat = 12 + x1.toNat by omega]; exact hon3.2.1
    replace hF := hF.to (rdb_e (z := z4) ez4)
    replace hF := hF.fc ⟨bz4.1, by4⟩
    obtain ⟨z5, ez5, bz5⟩ := hI.rd 1 ((x1 + 16).toNat) (x := 0) (y := 9) (rgN_20 (Or.inl rfl) (by omega))
    have by5 : z5 ≤ 8 := by rw [← ez5, show (x1 + 16).toNat = 16 + x1.toNat by omega]; exact hon3.2.2
    replace hF := hF.to (rdb_e (z := z5) ez5)
    replace hF := hF.fc ⟨bz5.1, by5⟩
    refine x_iload_n C.1 dX12_week_8 2 rfl ?_
    refine x_iconst C.1 (n := 1) dX12_week_9 ?_
    refine x_iconst C.1 (n := 3) dX12_week_10 ?_
    refine x_callSi C (As := [vI x2, vI 1, vI 3]) (rest := []) (m_in l D cy x2 ⟨by omega, by omega⟩ 1 ⟨by decide, by decide⟩ 3 ⟨by decide, by decide⟩) (l1 := []) (l2 := _) rfl (w2 := fun _ => _) (fun _ => rfl) rfl wm_yX12_in wn_X12 wl_X12_126 wi_yX12_in hd_yX12_in rfl ⟨Nat.le_of_ble_eq_true rfl, Nat.le_of_ble_eq_true rfl⟩ (Nat.le_of_ble_eq_true rfl) ⟨Nat.le_of_ble_eq_true rfl, Nat.le_of_ble_eq_true rfl⟩ dX12_week_11 (fun z6 u6 bz6 h6 => ?_)
    obtain ⟨bq6, hx6_0, hFc6⟩ := h6
    replace hF := calR_i hF hFc6
    replace hF := hF.fc bq6
    refine x_if_eq C.1 (tgt := 46) dX12_week_14 (by decide) (by omega) (fun hc7 => ?_) (fun hc7 => ?_)
    · replace hF := hF.to (if_pos hc7)
      refine x_iconst C.1 (n := -1) dX12_week_46 ?_
      exact x_iret (S := (Nat → Nat → Int)) (post := (fun a (u : Nat → Nat → Int) => MI G u ∧ FBm 74953511496571451491745792 V u ∧ (f_m_week x1 x2 x3 V J Rr) (a, u))) (w1 := (fun u : Nat → Nat → Int => MW cy ad u J Rr)) (a := (-1)) C hr rfl dX12_week_47 (by decide) V rfl ⟨hI, hB, hF _ rfl⟩
    · replace hF := hF.to (if_neg hc7)
      have hon8 := Sq.on hx6_0 (by omega)
      refine x_iload_n C.1 dX12_week_17 3 rfl ?_
      refine x_bipush C.1 (n := 10) dX12_week_18 ?_
      refine x_bipush C.1 (n := 11) dX12_week_20 ?_
      refine x_callSi C (As := [vI x3, vI 10, vI 11]) (rest := []) (m_in l D cy x3 ⟨by omega, by omega⟩ 10 ⟨by decide, by decide⟩ 11 ⟨by decide, by decide⟩) (l1 := []) (l2 := _) rfl (w2 := fun _ => _) (fun _ => rfl) rfl wm_yX12_in wn_X12 wl_X12_126 wi_yX12_in hd_yX12_in rfl ⟨Nat.le_of_ble_eq_true rfl, Nat.le_of_ble_eq_true rfl⟩ (Nat.le_of_ble_eq_true rfl) ⟨Nat.le_of_ble_eq_true rfl, Nat.le_of_ble_eq_true rfl⟩ dX12_week_22 (fun z9 u9 bz9 h9 => ?_)
      obtain ⟨bq9, hx9_0, hFc9⟩ := h9
      replace hF := calR_i hF hFc9
      replace hF := hF.fc bq9
      refine x_if_ne C.1 (tgt := 38) dX12_week_25 (by decide) (by omega) (fun hc10 => ?_) (fun hc10 => ?_)
      · replace hF := hF.to (if_pos hc10)
        have hon11 := Sq.on hx9_0 (by omega)
        refine x_aload_n C.1 dX12_week_38 0 rfl ?_
        refine x_iload_n C.1 dX12_week_39 2 rfl ?_
        refine x_callVi C (As := [vI x2]) (rest := []) 0 (xw_at (N := 33) (i := 0) (by decide) rfl) vc_X12 (m_laysSome l D cy ad G V J Rr hI hJ hR x2 ⟨by omega, by omega⟩) (l1 := []) (l2 := []) (List.append_nil _).symm (w2 := fun u : Nat → Nat → Int => MW cy ad u J Rr) (fun _ => List.append_nil _) rfl wm_yX12_laysSome wn_X12 wl_X12_339 wi_yX12_laysSome we_yX12_laysSome hd_yX12_laysSome rfl ⟨Nat.le_of_ble_eq_true rfl, Nat.le_of_ble_eq_true rfl⟩ (Nat.le_of_ble_eq_true rfl) ⟨Nat.le_of_ble_eq_true rfl, Nat.le_of_ble_eq_true rfl⟩ dX12_week_40 (fun z12 V12 bz12 h12 => ?_)
        obtain ⟨hI12, bq12, hBc12, hFc12⟩ := h12
        replace hF := calVM_i hF hFc12 hBc12
        replace hF := hF.fc bq12
        have hB12 := hB.tr hBc12 (m := 58028439341502200385896448) rfl
        refine x_if_ne C.1 (tgt := 48) dX12_week_43 (by decide) (by omega) (fun hc13 => ?_) (fun hc13 => ?_)
        · replace hF := hF.to (if_pos hc13)
          refine x_iconst C.1 (n := 1) dX12_week_48 ?_
          refine x_istore C.1 (lv' := [(4, vI 1), (0, .ref (ad 0)), (1, vI x1), (2, vI x2), (3, vI x3)]) dX12_week_49 (by decide) rfl ?_
          refine x_iconst C.1 (n := 0) dX12_week_51 ?_
          refine x_istore C.1 (lv' := [(5, vI 0), (4, vI 1), (0, .ref (ad 0)), (1, vI x1), (2, vI x2), (3, vI x3)]) dX12_week_52 (by decide) rfl ?_
          obtain ⟨bd556, hbd556, hF⟩ := lop2_ex hF
          refine x_loop (I := fun x : Int × Int => match x with | (z554, z555) => (0 ≤ z554 ∧ z554 ≤ 7) ∧ (-2147483648 ≤ z555 ∧ z555 ≤ 2147483647) ∧ (∃ nf : Nat, (8 - z554).toNat < nf ∧ Imp (lop2 nf bd556 z554 z555) (f_m_week x1 x2 x3 V J Rr))) (μ := fun x : Int × Int => match x with | (z554, z555) => (8 - z554).toNat) (wsf := fun x : Int × Int => match x with | (z554, z555) => MW cy ad V12 J Rr) (lvf := fun x : Int × Int => match x with | (z554, z555) => [(5, vI z554), (4, vI z555), (0, .ref (ad 0)), (1, vI x1), (2, vI x2), (3, vI x3)]) (fun x hI556x ih556 => ?_) (0, 1) ⟨⟨by decide, by decide⟩, ⟨by decide, by decide⟩, ⟨_, (by omega), hF⟩⟩ rfl rfl
          obtain ⟨z554, z555⟩ := x
          obtain ⟨bz554, bz555, nf556, hn556, hF⟩ := hI556x
          try dsimp only
          obtain ⟨nf556, rfl⟩ : ∃ mm, nf556 = mm + 1 := ⟨nf556 - 1, (Nat.succ_pred_eq_of_pos (Nat.lt_of_le_of_lt (Nat.zero_le _) hn556)).symm⟩
          replace hF := hF.to (lop2_s hbd556)
          refine x_iload C.1 dX12_week_54 0 rfl ?_
          refine x_bipush C.1 (n := 7) dX12_week_56 ?_
          refine x_icmp_ge C.1 (tgt := 75) dX12_week_58 (by decide) (by omega) (by decide) (fun hc733 => ?_) (fun hc733 => ?_)
          · replace hF := hF.to (if_pos hc733)
            refine x_iconst C.1 (n := -1) dX12_week_75 ?_
            refine x_istore C.1 (lv' := [(5, vI (-1)), (4, vI z555), (0, .ref (ad 0)), (1, vI x1), (2, vI x2), (3, vI x3)]) dX12_week_76 (by decide) rfl ?_
            refine x_iconst C.1 (n := 0) dX12_week_78 ?_
            refine x_istore C.1 (lv' := [(6, vI 0), (5, vI (-1)), (4, vI z555), (0, .ref (ad 0)), (1, vI x1), (2, vI x2), (3, vI x3)]) dX12_week_79 (by decide) rfl ?_
            obtain ⟨bd827, hbd827, hF⟩ := lop3_ex hF
            refine x_loop (I := fun x : Int × Int × (Nat → Nat → Int) => match x with | (z825, z826, V827) => (0 ≤ z825 ∧ z825 ≤ 2147483647) ∧ (-1 ≤ z826 ∧ z826 ≤ 2147483647) ∧ MI G V827 ∧ FBm 74953511496571451491745792 V V827 ∧ (∃ nf : Nat, (2147483648 - z825).toNat < nf ∧ Imp (lop3 nf bd827 z825 z826 V827) (f_m_week x1 x2 x3 V J Rr))) (μ := fun x : Int × Int × (Nat → Nat → Int) => match x with | (z825, z826, V827) => (2147483648 - z825).toNat) (wsf := fun x : Int × Int × (Nat → Nat → Int) => match x with | (z825, z826, V827) => MW cy ad V827 J Rr) (lvf := fun x : Int × Int × (Nat → Nat → Int) => match x with | (z825, z826, V827) => [(6, vI z825), (5, vI z826), (4, vI z555), (0, .ref (ad 0)), (1, vI x1), (2, vI x2), (3, vI x3)]) (fun x hI827x ih827 => ?_) (0, (-1), V12) ⟨⟨by decide, by decide⟩, ⟨by decide, by decide⟩, hI12, hB12, ⟨_, (by omega), hF⟩⟩ rfl rfl
            obtain ⟨z825, z826, V827⟩ := x
            obtain ⟨bz825, bz826, hI827, hB827, nf827, hn827, hF⟩ := hI827x
            try dsimp only
            obtain ⟨nf827, rfl⟩ : ∃ mm, nf827 = mm + 1 := ⟨nf827 - 1, (Nat.succ_pred_eq_of_pos (Nat.lt_of_le_of_lt (Nat.zero_le _) hn827)).symm⟩
            replace hF := hF.to (lop3_s hbd827)
            refine x_iload C.1 dX12_week_81 0 rfl ?_
            refine x_iload C.1 dX12_week_83 2 rfl ?_
            refine x_icmp_ge C.1 (tgt := 134) dX12_week_85 (by decide) (by omega) (by omega) (fun hc884 => ?_) (fun hc884 => ?_)
            · replace hF := hF.to (if_pos hc884)
              refine x_iload C.1 dX12_week_134 1 rfl ?_
              refine x_iconst C.1 (n := -1) dX12_week_136 ?_
              refine x_icmp_ne C.1 (tgt := 143) dX12_week_137 (by decide) (by omega) (by decide) (fun hc885 => ?_) (fun hc885 => ?_)
              · replace hF := hF.to (if_pos hc885)
                refine x_iload_n C.1 dX12_week_143 6 rfl ?_
                refine x_bipush C.1 (n := 9) dX12_week_144 ?_
                refine x_icmp_le_f C.1 (tgt := 173) dX12_week_146 (by decide) (by omega) (by decide) (by omega) ?_
                refine x_iload_n C.1 dX12_week_149 6 rfl ?_
                refine x_bipush C.1 (n := 10) dX12_week_150 ?_
                refine x_icmp_ne C.1 (tgt := 164) dX12_week_152 (by decide) (by omega) (by decide) (fun hc886 => ?_) (fun hc886 => ?_)
                · replace hF := hF.to (if_pos hc886)
                  refine x_aload_n C.1 dX12_week_164 3 rfl ?_
                  refine x_iload_n C.1 dX12_week_165 4 rfl ?_
                  refine x_iload_n C.1 dX12_week_166 5 rfl ?_
                  refine x_iload C.1 dX12_week_167 1 rfl ?_
                  refine x_callVi C (As := [vI x1, vI x2, vI z826]) (rest := []) 0 (xw_at (N := 33) (i := 0) (by decide) rfl) vc_X12 (m_wetBehind l D cy ad G V827 J Rr hI827 hJ hR x1 ⟨by omega, by omega⟩ x2 ⟨by omega, by omega⟩ z826 ⟨by omega, by omega⟩ hW) (l1 := []) (l2 := []) (List.append_nil _).symm (w2 := fun u : Nat → Nat → Int => MW cy ad u J Rr) (fun _ => List.append_nil _) rfl wm_yX12_wetBehind wn_X12 wl_X12_371 wi_yX12_wetBehind we_yX12_wetBehind hd_yX12_wetBehind rfl ⟨Nat.le_of_ble_eq_true rfl, Nat.le_of_ble_eq_true rfl⟩ (Nat.le_of_ble_eq_true rfl) ⟨Nat.le_of_ble_eq_true rfl, Nat.le_of_ble_eq_true rfl⟩ dX12_week_169 (fun z887 V887 bz887 h887 => ?_)
                  obtain ⟨hI887, hBc887, hFc887⟩ := h887
                  replace hF := calVM_i hF hFc887 hBc887
                  have hB887 := hB827.tr hBc887 (m := 16925072155069251105849344) rfl
                  exact x_iret (S := (Nat → Nat → Int)) (post := (fun a (u : Nat → Nat → Int) => MI G u ∧ FBm 74953511496571451491745792 V u ∧ (f_m_week x1 x2 x3 V J Rr) (a, u))) (w1 := (fun u : Nat → Nat → Int => MW cy ad u J Rr)) (a := z887) C hr rfl dX12_week_172 (by omega) V887 rfl ⟨hI887, hB887, hF _ rfl⟩
                · replace hF := hF.to (if_neg (fun hh => hh hc886))
                  refine x_iload C.1 dX12_week_155 1 rfl ?_
                  refine x_iload_n C.1 dX12_week_157 5 rfl ?_
                  refine x_callSi C (As := [vI z826, vI x2]) (rest := []) (m_comings l D cy z826 ⟨by omega, by omega⟩ x2 ⟨by omega, by omega⟩) (l1 := []) (l2 := _) rfl (w2 := fun _ => _) (fun _ => rfl) rfl wm_yX12_comings wn_X12 wl_X12_368 wi_yX12_comings hd_yX12_comings rfl ⟨Nat.le_of_ble_eq_true rfl, Nat.le_of_ble_eq_true rfl⟩ (Nat.le_of_ble_eq_true rfl) ⟨Nat.le_of_ble_eq_true rfl, Nat.le_of_ble_eq_true rfl⟩ dX12_week_158 (fun z888 u888 bz888 h888 => ?_)
                  have hFc888 := h888
                  replace hF := calR_i hF hFc888
                  refine x_goto C.1 (tgt := 172) dX12_week_161 (by decide) ?_
                  exact x_iret (S := (Nat → Nat → Int)) (post := (fun a (u : Nat → Nat → Int) => MI G u ∧ FBm 74953511496571451491745792 V u ∧ (f_m_week x1 x2 x3 V J Rr) (a, u))) (w1 := (fun u : Nat → Nat → Int => MW cy ad u J Rr)) (a := z888) C hr rfl dX12_week_172 (by omega) V827 rfl ⟨hI827, hB827, hF _ rfl⟩
              · replace hF := hF.to (if_neg (fun hh => hh hc885))
                refine x_bipush C.1 (n := -2) dX12_week_140 ?_
                exact x_iret (S := (Nat → Nat → Int)) (post := (fun a (u : Nat → Nat → Int) => MI G u ∧ FBm 74953511496571451491745792 V u ∧ (f_m_week x1 x2 x3 V J Rr) (a, u))) (w1 := (fun u : Nat → Nat → Int => MW cy ad u J Rr)) (a := (-2)) C hr rfl dX12_week_142 (by decide) V827 rfl ⟨hI827, hB827, hF _ rfl⟩
            · replace hF := hF.to (if_neg hc884)
              refine x_iload C.1 dX12_week_88 1 rfl ?_
              refine x_iconst C.1 (n := -1) dX12_week_90 ?_
              obtain ⟨jf897, hjf897, hF⟩ := jn_ex hF
              refine x_join (I := fun x : Int × (Nat → Nat → Int) => match x with | (z896, V897) => (-1 ≤ z896 ∧ z896 ≤ 2147483647) ∧ MI G V897 ∧ FBm 74953511496571451491745792 V V897 ∧ Imp (jf897 z896 V897) (f_m_week x1 x2 x3 V J Rr)) (wsf := fun x : Int × (Nat → Nat → Int) => match x with | (z896, V897) => MW cy ad V897 J Rr) (lvf := fun x : Int × (Nat → Nat → Int) => match x with | (z896, V897) => [(6, vI z825), (5, vI z896), (4, vI z555), (0, .ref (ad 0)), (1, vI x1), (2, vI x2), (3, vI x3)]) (stf := fun x : Int × (Nat → Nat → Int) => match x with | (z896, V897) => []) 128 (fun x hI897x => ?_) (fun jn897 => ?_)
              · obtain ⟨z896, V897⟩ := x
                obtain ⟨bz896, hI897, hB897, hF⟩ := hI897x
                try dsimp only
                replace hF := hF.to (jn_s2 hjf897)
                refine x_iinc C.1 (v := z825 + 1) (lv' := [(6, vI (z825 + 1)), (5, vI z896), (4, vI z555), (0, .ref (ad 0)), (1, vI x1), (2, vI x2), (3, vI x3)]) (by omega) dX12_week_128 0 rfl (by decide) rfl ?_
                refine x_goto C.1 (tgt := 81) dX12_week_131 (by decide) ?_
                have hmu827 : (2147483648 - (z825 + 1)).toNat < (2147483648 - z825).toNat := (by omega)
                exact ih827 (z825 + 1, z896, V897) ⟨⟨by omega, by omega⟩, ⟨by omega, by omega⟩, hI897, hB897, ⟨nf827, Nat.lt_of_lt_of_le hmu827 (Nat.le_of_lt_succ hn827), hF⟩⟩ hmu827
              · refine x_icmp_eq C.1 (tgt := 112) dX12_week_91 (by decide) (by omega) (by decide) (fun hc898 => ?_) (fun hc898 => ?_)
                · replace hF := hF.to (if_pos hc898)
                  refine x_aload_n C.1 dX12_week_112 3 rfl ?_
                  refine x_iload_n C.1 dX12_week_113 4 rfl ?_
                  refine x_iload_n C.1 dX12_week_114 5 rfl ?_
                  refine x_iload C.1 dX12_week_115 0 rfl ?_
                  refine x_callVi C (As := [vI x1, vI x2, vI z825]) (rest := []) 0 (xw_at (N := 33) (i := 0) (by decide) rfl) vc_X12 (m_wetBehind l D cy ad G V827 J Rr hI827 hJ hR x1 ⟨by omega, by omega⟩ x2 ⟨by omega, by omega⟩ z825 ⟨by omega, by omega⟩ hW) (l1 := []) (l2 := []) (List.append_nil _).symm (w2 := fun u : Nat → Nat → Int => MW cy ad u J Rr) (fun _ => List.append_nil _) rfl wm_yX12_wetBehind wn_X12 wl_X12_371 wi_yX12_wetBehind we_yX12_wetBehind hd_yX12_wetBehind rfl ⟨Nat.le_of_ble_eq_true rfl, Nat.le_of_ble_eq_true rfl⟩ (Nat.le_of_ble_eq_true rfl) ⟨Nat.le_of_ble_eq_true rfl, Nat.le_of_ble_eq_true rfl⟩ dX12_week_117 (fun z899 V899 bz899 h899 => ?_)
                  obtain ⟨hI899, hBc899, hFc899⟩ := h899
                  replace hF := calVM_i hF hFc899 hBc899
                  have hB899 := hB827.tr hBc899 (m := 16925072155069251105849344) rfl
                  refine x_iconst C.1 (n := -1) dX12_week_120 ?_
                  refine x_icmp_eq C.1 (tgt := 128) dX12_week_121 (by decide) (by omega) (by decide) (fun hc900 => ?_) (fun hc900 => ?_)
                  · replace hF := hF.to (if_pos hc900)
                    exact jn897 (z826, V899) ⟨⟨by omega, by omega⟩, hI899, hB899, hF⟩
                  · replace hF := hF.to (if_neg hc900)
                    refine x_iload C.1 dX12_week_124 0 rfl ?_
                    refine x_istore C.1 (lv' := [(5, vI z825), (6, vI z825), (4, vI z555), (0, .ref (ad 0)), (1, vI x1), (2, vI x2), (3, vI x3)]) dX12_week_126 (by decide) rfl ?_
                    refine x_lv [(6, vI z825), (5, vI z825), (4, vI z555), (0, .ref (ad 0)), (1, vI x1), (2, vI x2), (3, vI x3)] [1, 0, 2, 3, 4, 5, 6] rfl ?_
                    exact jn897 (z825, V899) ⟨⟨by omega, by omega⟩, hI899, hB899, hF⟩
                · replace hF := hF.to (if_neg hc898)
                  refine x_iload C.1 dX12_week_94 0 rfl ?_
                  refine x_iload_n C.1 dX12_week_96 5 rfl ?_
                  refine x_callSi C (As := [vI z825, vI x2]) (rest := []) (m_comings l D cy z825 ⟨by omega, by omega⟩ x2 ⟨by omega, by omega⟩) (l1 := []) (l2 := _) rfl (w2 := fun _ => _) (fun _ => rfl) rfl wm_yX12_comings wn_X12 wl_X12_368 wi_yX12_comings hd_yX12_comings rfl ⟨Nat.le_of_ble_eq_true rfl, Nat.le_of_ble_eq_true rfl⟩ (Nat.le_of_ble_eq_true rfl) ⟨Nat.le_of_ble_eq_true rfl, Nat.le_of_ble_eq_true rfl⟩ dX12_week_97 (fun z901 u901 bz901 h901 => ?_)
                  have hFc901 := h901
                  replace hF := calR_i hF hFc901
                  refine x_iload C.1 dX12_week_100 1 rfl ?_
                  refine x_iload_n C.1 dX12_week_102 5 rfl ?_
                  refine x_callSi C (As := [vI z826, vI x2]) (rest := [vI z901]) (m_comings l D cy z826 ⟨by omega, by omega⟩ x2 ⟨by omega, by omega⟩) (l1 := []) (l2 := _) rfl (w2 := fun _ => _) (fun _ => rfl) rfl wm_yX12_comings wn_X12 wl_X12_368 wi_yX12_comings hd_yX12_comings rfl ⟨Nat.le_of_ble_eq_true rfl, Nat.le_of_ble_eq_true rfl⟩ (Nat.le_of_ble_eq_true rfl) ⟨Nat.le_of_ble_eq_true rfl, Nat.le_of_ble_eq_true rfl⟩ dX12_week_103 (fun z902 u902 bz902 h902 => ?_)
                  have hFc902 := h902
                  replace hF := calR_i hF hFc902
                  refine x_icmp_lt C.1 (tgt := 112) dX12_week_106 (by decide) (by omega) (by omega) (fun hc903 => ?_) (fun hc903 => ?_)
                  · replace hF := hF.to (if_pos hc903)
                    refine x_aload_n C.1 dX12_week_112 3 rfl ?_
                    refine x_iload_n C.1 dX12_week_113 4 rfl ?_
                    refine x_iload_n C.1 dX12_week_114 5 rfl ?_
                    refine x_iload C.1 dX12_week_115 0 rfl ?_
                    refine x_callVi C (As := [vI x1, vI x2, vI z825]) (rest := []) 0 (xw_at (N := 33) (i := 0) (by decide) rfl) vc_X12 (m_wetBehind l D cy ad G V827 J Rr hI827 hJ hR x1 ⟨by omega, by omega⟩ x2 ⟨by omega, by omega⟩ z825 ⟨by omega, by omega⟩ hW) (l1 := []) (l2 := []) (List.append_nil _).symm (w2 := fun u : Nat → Nat → Int => MW cy ad u J Rr) (fun _ => List.append_nil _) rfl wm_yX12_wetBehind wn_X12 wl_X12_371 wi_yX12_wetBehind we_yX12_wetBehind hd_yX12_wetBehind rfl ⟨Nat.le_of_ble_eq_true rfl, Nat.le_of_ble_eq_true rfl⟩ (Nat.le_of_ble_eq_true rfl) ⟨Nat.le_of_ble_eq_true rfl, Nat.le_of_ble_eq_true rfl⟩ dX12_week_117 (fun z904 V904 bz904 h904 => ?_)
                    obtain ⟨hI904, hBc904, hFc904⟩ := h904
                    replace hF := calVM_i hF hFc904 hBc904
                    have hB904 := hB827.tr hBc904 (m := 16925072155069251105849344) rfl
                    refine x_iconst C.1 (n := -1) dX12_week_120 ?_
                    refine x_icmp_eq C.1 (tgt := 128) dX12_week_121 (by decide) (by omega) (by decide) (fun hc905 => ?_) (fun hc905 => ?_)
                    · replace hF := hF.to (if_pos hc905)
                      exact jn897 (z826, V904) ⟨⟨by omega, by omega⟩, hI904, hB904, hF⟩
                    · replace hF := hF.to (if_neg hc905)
                      refine x_iload C.1 dX12_week_124 0 rfl ?_
                      refine x_istore C.1 (lv' := [(5, vI z825), (6, vI z825), (4, vI z555), (0, .ref (ad 0)), (1, vI x1), (2, vI x2), (3, vI x3)]) dX12_week_126 (by decide) rfl ?_
                      refine x_lv [(6, vI z825), (5, vI z825), (4, vI z555), (0, .ref (ad 0)), (1, vI x1), (2, vI x2), (3, vI x3)] [1, 0, 2, 3, 4, 5, 6] rfl ?_
                      exact jn897 (z825, V904) ⟨⟨by omega, by omega⟩, hI904, hB904, hF⟩
                  · replace hF := hF.to (if_neg hc903)
                    refine x_goto C.1 (tgt := 128) dX12_week_109 (by decide) ?_
                    exact jn897 (z826, V827) ⟨⟨by omega, by omega⟩, hI827, hB827, hF⟩
          · replace hF := hF.to (if_neg hc733)
            refine x_iload C.1 dX12_week_61 1 rfl ?_
            refine x_iload_n C.1 dX12_week_63 4 rfl ?_
            refine x_iconst C.1 (n := 1) dX12_week_64 ?_
            refine x_iadd C.1 (v := x2 + 1) (by omega) dX12_week_65 ?_
            refine x_imul C.1 rfl dX12_week_66 ?_
            refine x_wrapg ?_
            intro z906 bz906 ew906
            replace hF := hF.to (rdb_e (z := z906) ew906.symm)
            refine x_istore C.1 (lv' := [(4, vI z906), (5, vI z554), (0, .ref (ad 0)), (1, vI x1), (2, vI x2), (3, vI x3)]) dX12_week_67 (by decide) rfl ?_
            refine x_iinc C.1 (v := z554 + 1) (lv' := [(5, vI (z554 + 1)), (4, vI z906), (0, .ref (ad 0)), (1, vI x1), (2, vI x2), (3, vI x3)]) (by omega) dX12_week_69 1 rfl (by decide) rfl ?_
            refine x_goto C.1 (tgt := 54) dX12_week_72 (by decide) ?_
            have hmu556 : (8 - (z554 + 1)).toNat < (8 - z554).toNat := (by omega)
            exact ih556 (z554 + 1, z906) ⟨⟨by omega, by omega⟩, ⟨by omega, by omega⟩, ⟨nf556, Nat.lt_of_lt_of_le hmu556 (Nat.le_of_lt_succ hn556), hF⟩⟩ hmu556
        · replace hF := hF.to (if_neg (fun hh => hh hc13))
          refine x_iconst C.1 (n := -1) dX12_week_46 ?_
          exact x_iret (S := (Nat → Nat → Int)) (post := (fun a (u : Nat → Nat → Int) => MI G u ∧ FBm 74953511496571451491745792 V u ∧ (f_m_week x1 x2 x3 V J Rr) (a, u))) (w1 := (fun u : Nat → Nat → Int => MW cy ad u J Rr)) (a := (-1)) C hr rfl dX12_week_47 (by decide) V12 rfl ⟨hI12, hB12, hF _ rfl⟩
      · replace hF := hF.to (if_neg (fun hh => hh hc10))
        refine x_iload_n C.1 dX12_week_28 3 rfl ?_
        refine x_iconst C.1 (n := 0) dX12_week_29 ?_
        refine x_bipush C.1 (n := 6) dX12_week_30 ?_
        refine x_callSi C (As := [vI x3, vI 0, vI 6]) (rest := []) (m_in l D cy x3 ⟨by omega, by omega⟩ 0 ⟨by decide, by decide⟩ 6 ⟨by decide, by decide⟩) (l1 := []) (l2 := _) rfl (w2 := fun _ => _) (fun _ => rfl) rfl wm_yX12_in wn_X12 wl_X12_126 wi_yX12_in hd_yX12_in rfl ⟨Nat.le_of_ble_eq_true rfl, Nat.le_of_ble_eq_true rfl⟩ (Nat.le_of_ble_eq_true rfl) ⟨Nat.le_of_ble_eq_true rfl, Nat.le_of_ble_eq_true rfl⟩ dX12_week_32 (fun z907 u907 bz907 h907 => ?_)
        obtain ⟨bq907, hx907_0, hFc907⟩ := h907
        replace hF := calR_i hF hFc907
        replace hF := hF.fc bq907
        refine x_if_eq C.1 (tgt := 46) dX12_week_35 (by decide) (by omega) (fun hc908 => ?_) (fun hc908 => ?_)
        · replace hF := hF.to (if_pos hc908)
          refine x_iconst C.1 (n := -1) dX12_week_46 ?_
          exact x_iret (S := (Nat → Nat → Int)) (post := (fun a (u : Nat → Nat → Int) => MI G u ∧ FBm 74953511496571451491745792 V u ∧ (f_m_week x1 x2 x3 V J Rr) (a, u))) (w1 := (fun u : Nat → Nat → Int => MW cy ad u J Rr)) (a := (-1)) C hr rfl dX12_week_47 (by decide) V rfl ⟨hI, hB, hF _ rfl⟩
        · replace hF := hF.to (if_neg hc908)
          have hon909 := Sq.on hx907_0 (by omega)
          refine x_aload_n C.1 dX12_week_38 0 rfl ?_
          refine x_iload_n C.1 dX12_week_39 2 rfl ?_
          refine x_callVi C (As := [vI x2]) (rest := []) 0 (xw_at (N := 33) (i := 0) (by decide) rfl) vc_X12 (m_laysSome l D cy ad G V J Rr hI hJ hR x2 ⟨by omega, by omega⟩) (l1 := []) (l2 := []) (List.append_nil _).symm (w2 := fun u : Nat → Nat → Int => MW cy ad u J Rr) (fun _ => List.append_nil _) rfl wm_yX12_laysSome wn_X12 wl_X12_339 wi_yX12_laysSome we_yX12_laysSome hd_yX12_laysSome rfl ⟨Nat.le_of_ble_eq_true rfl, Nat.le_of_ble_eq_true rfl⟩ (Nat.le_of_ble_eq_true rfl) ⟨Nat.le_of_ble_eq_true rfl, Nat.le_of_ble_eq_true rfl⟩ dX12_week_40 (fun z910 V910 bz910 h910 => ?_)
          obtain ⟨hI910, bq910, hBc910, hFc910⟩ := h910
          replace hF := calVM_i hF hFc910 hBc910
          replace hF := hF.fc bq910
          have hB910 := hB.tr hBc910 (m := 58028439341502200385896448) rfl
          refine x_if_ne C.1 (tgt := 48) dX12_week_43 (by decide) (by omega) (fun hc911 => ?_) (fun hc911 => ?_)
          · replace hF := hF.to (if_pos hc911)
            refine x_iconst C.1 (n := 1) dX12_week_48 ?_
            refine x_istore C.1 (lv' := [(4, vI 1), (0, .ref (ad 0)), (1, vI x1), (2, vI x2), (3, vI x3)]) dX12_week_49 (by decide) rfl ?_
            refine x_iconst C.1 (n := 0) dX12_week_51 ?_
            refine x_istore C.1 (lv' := [(5, vI 0), (4, vI 1), (0, .ref (ad 0)), (1, vI x1), (2, vI x2), (3, vI x3)]) dX12_week_52 (by decide) rfl ?_
            obtain ⟨bd1454, hbd1454, hF⟩ := lop2_ex hF
            refine x_loop (I := fun x : Int × Int => match x with | (z1452, z1453) => (0 ≤ z1452 ∧ z1452 ≤ 7) ∧ (-2147483648 ≤ z1453 ∧ z1453 ≤ 2147483647) ∧ (∃ nf : Nat, (8 - z1452).toNat < nf ∧ Imp (lop2 nf bd1454 z1452 z1453) (f_m_week x1 x2 x3 V J Rr))) (μ := fun x : Int × Int => match x with | (z1452, z1453) => (8 - z1452).toNat) (wsf := fun x : Int × Int => match x with | (z1452, z1453) => MW cy ad V910 J Rr) (lvf := fun x : Int × Int => match x with | (z1452, z1453) => [(5, vI z1452), (4, vI z1453), (0, .ref (ad 0)), (1, vI x1), (2, vI x2), (3, vI x3)]) (fun x hI1454x ih1454 => ?_) (0, 1) ⟨⟨by decide, by decide⟩, ⟨by decide, by decide⟩, ⟨_, (by omega), hF⟩⟩ rfl rfl
            obtain ⟨z1452, z1453⟩ := x
            obtain ⟨bz1452, bz1453, nf1454, hn1454, hF⟩ := hI1454x
            try dsimp only
            obtain ⟨nf1454, rfl⟩ : ∃ mm, nf1454 = mm + 1 := ⟨nf1454 - 1, (Nat.succ_pred_eq_of_pos (Nat.lt_of_le_of_lt (Nat.zero_le _) hn1454)).symm⟩
            replace hF := hF.to (lop2_s hbd1454)
            refine x_iload C.1 dX12_week_54 0 rfl ?_
            refine x_bipush C.1 (n := 7) dX12_week_56 ?_
            refine x_icmp_ge C.1 (tgt := 75) dX12_week_58 (by decide) (by omega) (by decide) (fun hc1631 => ?_) (fun hc1631 => ?_)
            · replace hF := hF.to (if_pos hc1631)
              refine x_iconst C.1 (n := -1) dX12_week_75 ?_
              refine x_istore C.1 (lv' := [(5, vI (-1)), (4, vI z1453), (0, .ref (ad 0)), (1, vI x1), (2, vI x2), (3, vI x3)]) dX12_week_76 (by decide) rfl ?_
              refine x_iconst C.1 (n := 0) dX12_week_78 ?_
              refine x_istore C.1 (lv' := [(6, vI 0), (5, vI (-1)), (4, vI z1453), (0, .ref (ad 0)), (1, vI x1), (2, vI x2), (3, vI x3)]) dX12_week_79 (by decide) rfl ?_
              obtain ⟨bd1725, hbd1725, hF⟩ := lop3_ex hF
              refine x_loop (I := fun x : Int × Int × (Nat → Nat → Int) => match x with | (z1723, z1724, V1725) => (0 ≤ z1723 ∧ z1723 ≤ 2147483647) ∧ (-1 ≤ z1724 ∧ z1724 ≤ 2147483647) ∧ MI G V1725 ∧ FBm 74953511496571451491745792 V V1725 ∧ (∃ nf : Nat, (2147483648 - z1723).toNat < nf ∧ Imp (lop3 nf bd1725 z1723 z1724 V1725) (f_m_week x1 x2 x3 V J Rr))) (μ := fun x : Int × Int × (Nat → Nat → Int) => match x with | (z1723, z1724, V1725) => (2147483648 - z1723).toNat) (wsf := fun x : Int × Int × (Nat → Nat → Int) => match x with | (z1723, z1724, V1725) => MW cy ad V1725 J Rr) (lvf := fun x : Int × Int × (Nat → Nat → Int) => match x with | (z1723, z1724, V1725) => [(6, vI z1723), (5, vI z1724), (4, vI z1453), (0, .ref (ad 0)), (1, vI x1), (2, vI x2), (3, vI x3)]) (fun x hI1725x ih1725 => ?_) (0, (-1), V910) ⟨⟨by decide, by decide⟩, ⟨by decide, by decide⟩, hI910, hB910, ⟨_, (by omega), hF⟩⟩ rfl rfl
              obtain ⟨z1723, z1724, V1725⟩ := x
              obtain ⟨bz1723, bz1724, hI1725, hB1725, nf1725, hn1725, hF⟩ := hI1725x
              try dsimp only
              obtain ⟨nf1725, rfl⟩ : ∃ mm, nf1725 = mm + 1 := ⟨nf1725 - 1, (Nat.succ_pred_eq_of_pos (Nat.lt_of_le_of_lt (Nat.zero_le _) hn1725)).symm⟩
              replace hF := hF.to (lop3_s hbd1725)
              refine x_iload C.1 dX12_week_81 0 rfl ?_
              refine x_iload C.1 dX12_week_83 2 rfl ?_
              refine x_icmp_ge C.1 (tgt := 134) dX12_week_85 (by decide) (by omega) (by omega) (fun hc1782 => ?_) (fun hc1782 => ?_)
              · replace hF := hF.to (if_pos hc1782)
                refine x_iload C.1 dX12_week_134 1 rfl ?_
                refine x_iconst C.1 (n := -1) dX12_week_136 ?_
                refine x_icmp_ne C.1 (tgt := 143) dX12_week_137 (by decide) (by omega) (by decide) (fun hc1783 => ?_) (fun hc1783 => ?_)
                · replace hF := hF.to (if_pos hc1783)
                  refine x_iload_n C.1 dX12_week_143 6 rfl ?_
                  refine x_bipush C.1 (n := 9) dX12_week_144 ?_
                  refine x_icmp_le_t C.1 (tgt := 173) dX12_week_146 (by decide) (by omega) (by decide) (by omega) ?_
                  refine x_iload C.1 dX12_week_173 1 rfl ?_
                  refine x_iload_n C.1 dX12_week_175 5 rfl ?_
                  refine x_iload_n C.1 dX12_week_176 6 rfl ?_
                  refine x_callSi C (As := [vI z1724, vI x2, vI x3]) (rest := []) (m_comingIn l D cy z1724 ⟨by omega, by omega⟩ x2 ⟨by omega, by omega⟩ x3 ⟨by omega, by omega⟩) (l1 := []) (l2 := _) rfl (w2 := fun _ => _) (fun _ => rfl) rfl wm_yX12_comingIn wn_X12 wl_X12_365 wi_yX12_comingIn hd_yX12_comingIn rfl ⟨Nat.le_of_ble_eq_true rfl, Nat.le_of_ble_eq_true rfl⟩ (Nat.le_of_ble_eq_true rfl) ⟨Nat.le_of_ble_eq_true rfl, Nat.le_of_ble_eq_true rfl⟩ dX12_week_177 (fun z1784 u1784 bz1784 h1784 => ?_)
                  obtain ⟨bq1784, hFc1784⟩ := h1784
                  replace hF := calR_i hF hFc1784
                  replace hF := hF.fc bq1784
                  refine x_istore C.1 (lv' := [(6, vI z1784), (5, vI z1724), (4, vI z1453), (0, .ref (ad 0)), (1, vI x1), (2, vI x2), (3, vI x3)]) dX12_week_180 (by decide) rfl ?_
                  refine x_iload C.1 dX12_week_182 0 rfl ?_
                  refine x_iload_n C.1 dX12_week_184 5 rfl ?_
                  refine x_icmp_ne C.1 (tgt := 193) dX12_week_185 (by decide) (by omega) (by omega) (fun hc1785 => ?_) (fun hc1785 => ?_)
                  · replace hF := hF.to (if_pos hc1785)
                    refine x_aload_n C.1 dX12_week_193 3 rfl ?_
                    refine x_getA C (N := 33) (i := 0) (by decide) rfl vc_X12 wx_X12 35 (by decide) wf_X12_68 (a := 20) rfl dX12_week_194 ?_
                    refine x_iload C.1 dX12_week_197 0 rfl ?_
                    obtain ⟨z1786, ez1786, bz1786⟩ := hI1725.rd 20 z1784.toNat (x := 0) (y := 7) rfl
                    replace hF := hF.to (rdb_e (z := z1786) ez1786)
                    replace hF := hF.fc bz1786
                    refine x_iald C (N := 33) (i := 20) (q := z1784) (by decide) rfl (by omega) (by decide) dX12_week_199 (a := z1786) ez1786 ?_
                    exact x_iret (S := (Nat → Nat → Int)) (post := (fun a (u : Nat → Nat → Int) => MI G u ∧ FBm 74953511496571451491745792 V u ∧ (f_m_week x1 x2 x3 V J Rr) (a, u))) (w1 := (fun u : Nat → Nat → Int => MW cy ad u J Rr)) (a := z1786) C hr rfl dX12_week_200 (by omega) V1725 rfl ⟨hI1725, hB1725, hF _ rfl⟩
                  · replace hF := hF.to (if_neg (fun hh => hh hc1785))
                    refine x_bipush C.1 (n := -3) dX12_week_188 ?_
                    refine x_goto C.1 (tgt := 200) dX12_week_190 (by decide) ?_
                    exact x_iret (S := (Nat → Nat → Int)) (post := (fun a (u : Nat → Nat → Int) => MI G u ∧ FBm 74953511496571451491745792 V u ∧ (f_m_week x1 x2 x3 V J Rr) (a, u))) (w1 := (fun u : Nat → Nat → Int => MW cy ad u J Rr)) (a := (-3)) C hr rfl dX12_week_200 (by decide) V1725 rfl ⟨hI1725, hB1725, hF _ rfl⟩
                · replace hF := hF.to (if_neg (fun hh => hh hc1783))
                  refine x_bipush C.1 (n := -2) dX12_week_140 ?_
                  exact x_iret (S := (Nat → Nat → Int)) (post := (fun a (u : Nat → Nat → Int) => MI G u ∧ FBm 74953511496571451491745792 V u ∧ (f_m_week x1 x2 x3 V J Rr) (a, u))) (w1 := (fun u : Nat → Nat → Int => MW cy ad u J Rr)) (a := (-2)) C hr rfl dX12_week_142 (by decide) V1725 rfl ⟨hI1725, hB1725, hF _ rfl⟩
              · replace hF := hF.to (if_neg hc1782)
                refine x_iload C.1 dX12_week_88 1 rfl ?_
                refine x_iconst C.1 (n := -1) dX12_week_90 ?_
                obtain ⟨jf1795, hjf1795, hF⟩ := jn_ex hF
                refine x_join (I := fun x : Int × (Nat → Nat → Int) => match x with | (z1794, V1795) => (-1 ≤ z1794 ∧ z1794 ≤ 2147483647) ∧ MI G V1795 ∧ FBm 74953511496571451491745792 V V1795 ∧ Imp (jf1795 z1794 V1795) (f_m_week x1 x2 x3 V J Rr)) (wsf := fun x : Int × (Nat → Nat → Int) => match x with | (z1794, V1795) => MW cy ad V1795 J Rr) (lvf := fun x : Int × (Nat → Nat → Int) => match x with | (z1794, V1795) => [(6, vI z1723), (5, vI z1794), (4, vI z1453), (0, .ref (ad 0)), (1, vI x1), (2, vI x2), (3, vI x3)]) (stf := fun x : Int × (Nat → Nat → Int) => match x with | (z1794, V1795) => []) 128 (fun x hI1795x => ?_) (fun jn1795 => ?_)
                · obtain ⟨z1794, V1795⟩ := x
                  obtain ⟨bz1794, hI1795, hB1795, hF⟩ := hI1795x
                  try dsimp only
                  replace hF := hF.to (jn_s2 hjf1795)
                  refine x_iinc C.1 (v := z1723 + 1) (lv' := [(6, vI (z1723 + 1)), (5, vI z1794), (4, vI z1453), (0, .ref (ad 0)), (1, vI x1), (2, vI x2), (3, vI x3)]) (by omega) dX12_week_128 0 rfl (by decide) rfl ?_
                  refine x_goto C.1 (tgt := 81) dX12_week_131 (by decide) ?_
                  have hmu1725 : (2147483648 - (z1723 + 1)).toNat < (2147483648 - z1723).toNat := (by omega)
                  exact ih1725 (z1723 + 1, z1794, V1795) ⟨⟨by omega, by omega⟩, ⟨by omega, by omega⟩, hI1795, hB1795, ⟨nf1725, Nat.lt_of_lt_of_le hmu1725 (Nat.le_of_lt_succ hn1725), hF⟩⟩ hmu1725
                · refine x_icmp_eq C.1 (tgt := 112) dX12_week_91 (by decide) (by omega) (by decide) (fun hc1796 => ?_) (fun hc1796 => ?_)
                  · replace hF := hF.to (if_pos hc1796)
                    refine x_aload_n C.1 dX12_week_112 3 rfl ?_
                    refine x_iload_n C.1 dX12_week_113 4 rfl ?_
                    refine x_iload_n C.1 dX12_week_114 5 rfl ?_
                    refine x_iload C.1 dX12_week_115 0 rfl ?_
                    refine x_callVi C (As := [vI x1, vI x2, vI z1723]) (rest := []) 0 (xw_at (N := 33) (i := 0) (by decide) rfl) vc_X12 (m_wetBehind l D cy ad G V1725 J Rr hI1725 hJ hR x1 ⟨by omega, by omega⟩ x2 ⟨by omega, by omega⟩ z1723 ⟨by omega, by omega⟩ hW) (l1 := []) (l2 := []) (List.append_nil _).symm (w2 := fun u : Nat → Nat → Int => MW cy ad u J Rr) (fun _ => List.append_nil _) rfl wm_yX12_wetBehind wn_X12 wl_X12_371 wi_yX12_wetBehind we_yX12_wetBehind hd_yX12_wetBehind rfl ⟨Nat.le_of_ble_eq_true rfl, Nat.le_of_ble_eq_true rfl⟩ (Nat.le_of_ble_eq_true rfl) ⟨Nat.le_of_ble_eq_true rfl, Nat.le_of_ble_eq_true rfl⟩ dX12_week_117 (fun z1797 V1797 bz1797 h1797 => ?_)
                    obtain ⟨hI1797, hBc1797, hFc1797⟩ := h1797
                    replace hF := calVM_i hF hFc1797 hBc1797
                    have hB1797 := hB1725.tr hBc1797 (m := 16925072155069251105849344) rfl
                    refine x_iconst C.1 (n := -1) dX12_week_120 ?_
                    refine x_icmp_eq C.1 (tgt := 128) dX12_week_121 (by decide) (by omega) (by decide) (fun hc1798 => ?_) (fun hc1798 => ?_)
                    · replace hF := hF.to (if_pos hc1798)
                      exact jn1795 (z1724, V1797) ⟨⟨by omega, by omega⟩, hI1797, hB1797, hF⟩
                    · replace hF := hF.to (if_neg hc1798)
                      refine x_iload C.1 dX12_week_124 0 rfl ?_
                      refine x_istore C.1 (lv' := [(5, vI z1723), (6, vI z1723), (4, vI z1453), (0, .ref (ad 0)), (1, vI x1), (2, vI x2), (3, vI x3)]) dX12_week_126 (by decide) rfl ?_
                      refine x_lv [(6, vI z1723), (5, vI z1723), (4, vI z1453), (0, .ref (ad 0)), (1, vI x1), (2, vI x2), (3, vI x3)] [1, 0, 2, 3, 4, 5, 6] rfl ?_
                      exact jn1795 (z1723, V1797) ⟨⟨by omega, by omega⟩, hI1797, hB1797, hF⟩
                  · replace hF := hF.to (if_neg hc1796)
                    refine x_iload C.1 dX12_week_94 0 rfl ?_
                    refine x_iload_n C.1 dX12_week_96 5 rfl ?_
                    refine x_callSi C (As := [vI z1723, vI x2]) (rest := []) (m_comings l D cy z1723 ⟨by omega, by omega⟩ x2 ⟨by omega, by omega⟩) (l1 := []) (l2 := _) rfl (w2 := fun _ => _) (fun _ => rfl) rfl wm_yX12_comings wn_X12 wl_X12_368 wi_yX12_comings hd_yX12_comings rfl ⟨Nat.le_of_ble_eq_true rfl, Nat.le_of_ble_eq_true rfl⟩ (Nat.le_of_ble_eq_true rfl) ⟨Nat.le_of_ble_eq_true rfl, Nat.le_of_ble_eq_true rfl⟩ dX12_week_97 (fun z1799 u1799 bz1799 h1799 => ?_)
                    have hFc1799 := h1799
                    replace hF := calR_i hF hFc1799
                    refine x_iload C.1 dX12_week_100 1 rfl ?_
                    refine x_iload_n C.1 dX12_week_102 5 rfl ?_
                    refine x_callSi C (As := [vI z1724, vI x2]) (rest := [vI z1799]) (m_comings l D cy z1724 ⟨by omega, by omega⟩ x2 ⟨by omega, by omega⟩) (l1 := []) (l2 := _) rfl (w2 := fun _ => _) (fun _ => rfl) rfl wm_yX12_comings wn_X12 wl_X12_368 wi_yX12_comings hd_yX12_comings rfl ⟨Nat.le_of_ble_eq_true rfl, Nat.le_of_ble_eq_true rfl⟩ (Nat.le_of_ble_eq_true rfl) ⟨Nat.le_of_ble_eq_true rfl, Nat.le_of_ble_eq_true rfl⟩ dX12_week_103 (fun z1800 u1800 bz1800 h1800 => ?_)
                    have hFc1800 := h1800
                    replace hF := calR_i hF hFc1800
                    refine x_icmp_lt C.1 (tgt := 112) dX12_week_106 (by decide) (by omega) (by omega) (fun hc1801 => ?_) (fun hc1801 => ?_)
                    · replace hF := hF.to (if_pos hc1801)
                      refine x_aload_n C.1 dX12_week_112 3 rfl ?_
                      refine x_iload_n C.1 dX12_week_113 4 rfl ?_
                      refine x_iload_n C.1 dX12_week_114 5 rfl ?_
                      refine x_iload C.1 dX12_week_115 0 rfl ?_
                      refine x_callVi C (As := [vI x1, vI x2, vI z1723]) (rest := []) 0 (xw_at (N := 33) (i := 0) (by decide) rfl) vc_X12 (m_wetBehind l D cy ad G V1725 J Rr hI1725 hJ hR x1 ⟨by omega, by omega⟩ x2 ⟨by omega, by omega⟩ z1723 ⟨by omega, by omega⟩ hW) (l1 := []) (l2 := []) (List.append_nil _).symm (w2 := fun u : Nat → Nat → Int => MW cy ad u J Rr) (fun _ => List.append_nil _) rfl wm_yX12_wetBehind wn_X12 wl_X12_371 wi_yX12_wetBehind we_yX12_wetBehind hd_yX12_wetBehind rfl ⟨Nat.le_of_ble_eq_true rfl, Nat.le_of_ble_eq_true rfl⟩ (Nat.le_of_ble_eq_true rfl) ⟨Nat.le_of_ble_eq_true rfl, Nat.le_of_ble_eq_true rfl⟩ dX12_week_117 (fun z1802 V1802 bz1802 h1802 => ?_)
                      obtain ⟨hI1802, hBc1802, hFc1802⟩ := h1802
                      replace hF := calVM_i hF hFc1802 hBc1802
                      have hB1802 := hB1725.tr hBc1802 (m := 16925072155069251105849344) rfl
                      refine x_iconst C.1 (n := -1) dX12_week_120 ?_
                      refine x_icmp_eq C.1 (tgt := 128) dX12_week_121 (by decide) (by omega) (by decide) (fun hc1803 => ?_) (fun hc1803 => ?_)
                      · replace hF := hF.to (if_pos hc1803)
                        exact jn1795 (z1724, V1802) ⟨⟨by omega, by omega⟩, hI1802, hB1802, hF⟩
                      · replace hF := hF.to (if_neg hc1803)
                        refine x_iload C.1 dX12_week_124 0 rfl ?_
                        refine x_istore C.1 (lv' := [(5, vI z1723), (6, vI z1723), (4, vI z1453), (0, .ref (ad 0)), (1, vI x1), (2, vI x2), (3, vI x3)]) dX12_week_126 (by decide) rfl ?_
                        refine x_lv [(6, vI z1723), (5, vI z1723), (4, vI z1453), (0, .ref (ad 0)), (1, vI x1), (2, vI x2), (3, vI x3)] [1, 0, 2, 3, 4, 5, 6] rfl ?_
                        exact jn1795 (z1723, V1802) ⟨⟨by omega, by omega⟩, hI1802, hB1802, hF⟩
                    · replace hF := hF.to (if_neg hc1801)
                      refine x_goto C.1 (tgt := 128) dX12_week_109 (by decide) ?_
                      exact jn1795 (z1724, V1725) ⟨⟨by omega, by omega⟩, hI1725, hB1725, hF⟩
            · replace hF := hF.to (if_neg hc1631)
              refine x_iload C.1 dX12_week_61 1 rfl ?_
              refine x_iload_n C.1 dX12_week_63 4 rfl ?_
              refine x_iconst C.1 (n := 1) dX12_week_64 ?_
              refine x_iadd C.1 (v := x2 + 1) (by omega) dX12_week_65 ?_
              refine x_imul C.1 rfl dX12_week_66 ?_
              refine x_wrapg ?_
              intro z1804 bz1804 ew1804
              replace hF := hF.to (rdb_e (z := z1804) ew1804.symm)
              refine x_istore C.1 (lv' := [(4, vI z1804), (5, vI z1452), (0, .ref (ad 0)), (1, vI x1), (2, vI x2), (3, vI x3)]) dX12_week_67 (by decide) rfl ?_
              refine x_iinc C.1 (v := z1452 + 1) (lv' := [(5, vI (z1452 + 1)), (4, vI z1804), (0, .ref (ad 0)), (1, vI x1), (2, vI x2), (3, vI x3)]) (by omega) dX12_week_69 1 rfl (by decide) rfl ?_
              refine x_goto C.1 (tgt := 54) dX12_week_72 (by decide) ?_
              have hmu1454 : (8 - (z1452 + 1)).toNat < (8 - z1452).toNat := (by omega)
              exact ih1454 (z1452 + 1, z1804) ⟨⟨by omega, by omega⟩, ⟨by omega, by omega⟩, ⟨nf1454, Nat.lt_of_lt_of_le hmu1454 (Nat.le_of_lt_succ hn1454), hF⟩⟩ hmu1454
          · replace hF := hF.to (if_neg (fun hh => hh hc911))
            refine x_iconst C.1 (n := -1) dX12_week_46 ?_
            exact x_iret (S := (Nat → Nat → Int)) (post := (fun a (u : Nat → Nat → Int) => MI G u ∧ FBm 74953511496571451491745792 V u ∧ (f_m_week x1 x2 x3 V J Rr) (a, u))) (w1 := (fun u : Nat → Nat → Int => MW cy ad u J Rr)) (a := (-1)) C hr rfl dX12_week_47 (by decide) V910 rfl ⟨hI910, hB910, hF _ rfl⟩
