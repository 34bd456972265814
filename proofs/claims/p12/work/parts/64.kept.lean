section
set_option maxRecDepth 100000 in
def f_s_fillK (k0 : Nat) (x1 : Int) (V : Nat → Nat → Int) (J : Nat → Nat → Int) (Rr : Nat → Nat → Nat) : (Nat → Nat → Int) → Prop :=
  lop2 (9) (fun rc15 (z14 : Int) (V15 : Nat → Nat → Int) => (if 7 ≤ z14 then rtn V15 else rdb (up2 V15 (k0 + 1) z14.toNat x1) fun V19 => rc15 (z14 + 1) V19)) 0 V
set_option maxHeartbeats 8000000 in
set_option maxRecDepth 100000 in
theorem s_fillK (l : Launch) (D : va_G) (cy : Nat → ClassId) (ad : Nat → Nat) (G : Nat → Nat → Int) (V J : Nat → Nat → Int) (Rr : Nat → Nat → Nat) (hI : XU G V) (hJ : VJ J) (hR : XR Rr) (k0 : Nat) (hk0 : isPl k0) (x1 : Int) (bx1 : -2147483648 ≤ x1 ∧ x1 ≤ 2147483647) : xMv l D (xTY cy) yJ7_fill_53178 cJ7_fill_53178 4 none 0 0 0 0 [.ref (ad (k0 + 1)), vI x1] (XW cy ad V J Rr) (fun u : Nat → Nat → Int => XW cy ad u J Rr) (fun u : Nat → Nat → Int => XU G u ∧ FB (fun i k : Nat => (k0 ≤ i ∧ i ≤ k0 + 1)) V u ∧ (f_s_fillK k0 x1 V J Rr) u) := by
  refine xMv.mk (lv0 := [(0, .ref (ad (k0 + 1))), (1, vI x1)]) (by decide) rfl (Nat.le_of_ble_eq_true rfl) (fun p e s m below meth c A C hr hnm hAe => ?_)
  have C : xC2 p s m _ meth c D A s.heap 4 cJ7_fill_53178 RJ7 (xTY cy) := C
  have hB : FB (fun i k : Nat => (k0 ≤ i ∧ i ≤ k0 + 1)) V V := FB.rf _ _
  have hF := Imp.of_eq (f_s_fillK.eq_def k0 x1 V J Rr)
  refine x_iconst C.1 (n := 0) dJ7_fill_53178_0 ?_
  refine x_istore_n C.1 (lv' := [(2, vI 0), (0, .ref (ad (k0 + 1))), (1, vI x1)]) dJ7_fill_53178_1 (by decide) rfl ?_
  refine x_aload_n C.1 dJ7_fill_53178_2 1 rfl ?_
  refine x_alenI C (N := 129) (i := k0 + 1) (t := 0) rfl hk0.1 hk0.2.2 dJ7_fill_53178_3 ?_
  refine x_istore_n C.1 (lv' := [(3, vI 7), (2, vI 0), (0, .ref (ad (k0 + 1))), (1, vI x1)]) dJ7_fill_53178_4 (by decide) rfl ?_
  obtain ⟨bd15, hbd15, hF⟩ := lop2_ex hF
  refine x_loop (I := fun x : Int × (Nat → Nat → Int) => match x with | (z14, V15) => (0 ≤ z14 ∧ z14 ≤ 7) ∧ XU G V15 ∧ FB (fun i k : Nat => (k0 ≤ i ∧ i ≤ k0 + 1)) V V15 ∧ (∃ nf : Nat, (8 - z14).toNat < nf ∧ Imp (lop2 nf bd15 z14 V15) (f_s_fillK k0 x1 V J Rr))) (μ := fun x : Int × (Nat → Nat → Int) => match x with | (z14, V15) => (8 - z14).toNat) (wsf := fun x : Int × (Nat → Nat → Int) => match x with | (z14, V15) => XW cy ad V15 J Rr) (lvf := fun x : Int × (Nat → Nat → Int) => match x with | (z14, V15) => [(3, vI 7), (2, vI z14), (0, .ref (ad (k0 + 1))), (1, vI x1)]) (fun x hI15x ih15 => ?_) (0, V) ⟨⟨by decide, by decide⟩, hI, hB, ⟨_, (by omega), hF⟩⟩ rfl rfl
  obtain ⟨z14, V15⟩ := x
  obtain ⟨bz14, hI15, hB15, nf15, hn15, hF⟩ := hI15x
  try dsimp only
  obtain ⟨nf15, rfl⟩ : ∃ mm, nf15 = mm + 1 := ⟨nf15 - 1, (Nat.succ_pred_eq_of_pos (Nat.lt_of_le_of_lt (Nat.zero_le _) hn15)).symm⟩
  replace hF := hF.to (lop2_s hbd15)
  refine x_iload_n C.1 dJ7_fill_53178_5 1 rfl ?_
  refine x_iload_n C.1 dJ7_fill_53178_6 0 rfl ?_
  refine x_icmp_ge C.1 (tgt := 20) dJ7_fill_53178_7 (by decide) (by omega) (by decide) (fun hc18 => ?_) (fun hc18 => ?_)
  · replace hF := hF.to (if_pos hc18)
    exact x_vret (S := (Nat → Nat → Int)) (post := (fun u : Nat → Nat → Int => XU G u ∧ FB (fun i k : Nat => (k0 ≤ i ∧ i ≤ k0 + 1)) V u ∧ (f_s_fillK k0 x1 V J Rr) u)) (w1 := (fun u : Nat → Nat → Int => XW cy ad u J Rr)) C hr rfl dJ7_fill_53178_20 V15 rfl ⟨hI15, hB15, hF _ rfl⟩
  · replace hF := hF.to (if_neg hc18)
    refine x_aload_n C.1 dJ7_fill_53178_10 2 rfl ?_
    refine x_iload_n C.1 dJ7_fill_53178_11 1 rfl ?_
    refine x_iload_n C.1 dJ7_fill_53178_12 3 rfl ?_
    refine x_iast C (N := 129) (i := k0 + 1) (q := z14) (a := x1) hk0.1 hk0.2.2 (by omega) (by decide) dJ7_fill_53178_13 ?_
    refine x_gV ?_
    intro V19 hV19
    have hI19 : XU G V19 := hI15.up hV19 (rg_K hk0 _) (by omega) trivial
    have hB19 := hB15.up hV19 (⟨by omega, by omega⟩)
    replace hF := hF.to (rdb_e (z := V19) hV19.symm)
    refine x_iinc C.1 (v := z14 + 1) (lv' := [(2, vI (z14 + 1)), (3, vI 7), (0, .ref (ad (k0 + 1))), (1, vI x1)]) (by omega) dJ7_fill_53178_14 1 rfl (by decide) rfl ?_
    refine x_goto C.1 (tgt := 5) dJ7_fill_53178_17 (by decide) ?_
    refine x_lv [(3, vI 7), (2, vI (z14 + 1)), (0, .ref (ad (k0 + 1))), (1, vI x1)] [1, 0, 2, 3] rfl ?_
    have hmu15 : (8 - (z14 + 1)).toNat < (8 - z14).toNat := (by omega)
    exact ih15 (z14 + 1, V19) ⟨⟨by omega, by omega⟩, hI19, hB19, ⟨nf15, Nat.lt_of_lt_of_le hmu15 (Nat.le_of_lt_succ hn15), hF⟩⟩ hmu15
theorem dX5_tell_0 : decode cX5_tell 0 = .ok (.aload_n 0, 1) := by decide +kernel
theorem dX5_tell_1 : decode cX5_tell 1 = .ok (.iconst 1, 1) := by decide +kernel
theorem dX5_tell_2 : decode cX5_tell 2 = .ok (.putfield 19, 3) := by decide +kernel
theorem dX5_tell_5 : decode cX5_tell 5 = .ok (.aload_n 0, 1) := by decide +kernel
theorem dX5_tell_6 : decode cX5_tell 6 = .ok (.iload_n 1, 1) := by decide +kernel
theorem dX5_tell_7 : decode cX5_tell 7 = .ok (.putfield 23, 3) := by decide +kernel
theorem dX5_tell_10 : decode cX5_tell 10 = .ok (.aload_n 0, 1) := by decide +kernel
theorem dX5_tell_11 : decode cX5_tell 11 = .ok (.iload_n 2, 1) := by decide +kernel
theorem dX5_tell_12 : decode cX5_tell 12 = .ok (.putfield 26, 3) := by decide +kernel
theorem dX5_tell_15 : decode cX5_tell 15 = .ok (.aload_n 0, 1) := by decide +kernel
theorem dX5_tell_16 : decode cX5_tell 16 = .ok (.iload_n 3, 1) := by decide +kernel
theorem dX5_tell_17 : decode cX5_tell 17 = .ok (.putfield 29, 3) := by decide +kernel
theorem dX5_tell_20 : decode cX5_tell 20 = .ok (.aload_n 0, 1) := by decide +kernel
theorem dX5_tell_21 : decode cX5_tell 21 = .ok (.iconst 0, 1) := by decide +kernel
theorem dX5_tell_22 : decode cX5_tell 22 = .ok (.putfield 32, 3) := by decide +kernel
theorem dX5_tell_25 : decode cX5_tell 25 = .ok (.aload_n 0, 1) := by decide +kernel
theorem dX5_tell_26 : decode cX5_tell 26 = .ok (.iconst 0, 1) := by decide +kernel
theorem dX5_tell_27 : decode cX5_tell 27 = .ok (.putfield 35, 3) := by decide +kernel
theorem dX5_tell_30 : decode cX5_tell 30 = .ok (.aload_n 0, 1) := by decide +kernel
theorem dX5_tell_31 : decode cX5_tell 31 = .ok (.iconst 0, 1) := by decide +kernel
theorem dX5_tell_32 : decode cX5_tell 32 = .ok (.putfield 38, 3) := by decide +kernel
theorem dX5_tell_35 : decode cX5_tell 35 = .ok (.aload_n 0, 1) := by decide +kernel
theorem dX5_tell_36 : decode cX5_tell 36 = .ok (.iconst (-1), 1) := by decide +kernel
theorem dX5_tell_37 : decode cX5_tell 37 = .ok (.putfield 9, 3) := by decide +kernel
theorem dX5_tell_40 : decode cX5_tell 40 = .ok (.aload_n 0, 1) := by decide +kernel
theorem dX5_tell_41 : decode cX5_tell 41 = .ok (.getfield 15, 3) := by decide +kernel
theorem dX5_tell_44 : decode cX5_tell 44 = .ok (.aload_n 0, 1) := by decide +kernel
theorem dX5_tell_45 : decode cX5_tell 45 = .ok (.getfield 26, 3) := by decide +kernel
theorem dX5_tell_48 : decode cX5_tell 48 = .ok (.invokestatic 41, 3) := by decide +kernel
theorem dX5_tell_51 : decode cX5_tell 51 = .ok (.return_, 1) := by decide +kernel
set_option maxRecDepth 100000 in
def f_s_tell (k0 : Nat) (x1 : Int) (x2 : Int) (x3 : Int) (V : Nat → Nat → Int) (J : Nat → Nat → Int) (Rr : Nat → Nat → Nat) : (Nat → Nat → Int) → Prop :=
  rdb (up2 V k0 0 1) fun V1 => rdb (up2 V1 k0 1 x1) fun V2 => rdb (up2 V2 k0 2 x2) fun V3 => rdb (up2 V3 k0 3 x3) fun V4 => rdb (up2 V4 k0 4 0) fun V5 => rdb (up2 V5 k0 5 0) fun V6 => rdb (up2 V6 k0 6 0) fun V7 => rdb (up2 V7 k0 7 (-1)) fun V8 => calUX (fun i k : Nat => (k0 ≤ i ∧ i ≤ k0 + 1)) V8 (f_s_fillK k0 x2 V8 J Rr) fun V9 => rtn V9
set_option maxHeartbeats 8000000 in
set_option maxRecDepth 100000 in
theorem s_tell (l : Launch) (D : va_G) (cy : Nat → ClassId) (ad : Nat → Nat) (G : Nat → Nat → Int) (V J : Nat → Nat → Int) (Rr : Nat → Nat → Nat) (hI : XU G V) (hJ : VJ J) (hR : XR Rr) (k0 : Nat) (hk0 : isPl k0) (x1 : Int) (bx1 : -2147483648 ≤ x1 ∧ x1 ≤ 2147483647) (x2 : Int) (bx2 : -2147483648 ≤ x2 ∧ x2 ≤ 2147483647) (x3 : Int) (bx3 : -2147483648 ≤ x3 ∧ x3 ≤ 2147483647) : xMv l D (xTY cy) yX5_tell cX5_tell 4 none 1 23 0 0 [.ref (ad k0), vI x1, vI x2, vI x3] (XW cy ad V J Rr) (fun u : Nat → Nat → Int => XW cy ad u J Rr) (fun u : Nat → Nat → Int => XU G u ∧ FB (fun i k : Nat => (k0 ≤ i ∧ i ≤ k0 + 1)) V u ∧ (f_s_tell k0 x1 x2 x3 V J Rr) u) := by
  refine xMv.mk (lv0 := [(0, .ref (ad k0)), (1, vI x1), (2, vI x2), (3, vI x3)]) (by decide) rfl (Nat.le_of_ble_eq_true rfl) (fun p e s m below meth c A C hr hnm hAe => ?_)
  have C : xC2 p s m _ meth c D A s.heap 4 cX5_tell RX5 (xTY cy) := C
  have hB : FB (fun i k : Nat => (k0 ≤ i ∧ i ≤ k0 + 1)) V V := FB.rf _ _
  have hF := Imp.of_eq (f_s_tell.eq_def k0 x1 x2 x3 V J Rr)
  refine x_aload_n C.1 dX5_tell_0 0 rfl ?_
  refine x_iconst C.1 (n := 1) dX5_tell_1 ?_
  refine x_putI C (N := 129) (i := k0) (Nat.lt_of_succ_lt hk0.1) hk0.2.1 vc_X5 wx_X5 0 (by decide) wf_X5_19 tyX5 tyX5_ok nmX5 rfl (tyX5_ok 0 (by decide)) rfl dX5_tell_2 (by decide) (by decide) ?_
  refine x_gV ?_
  intro V1 hV1
  have hI1 : XU G V1 := hI.up hV1 (rg_P hk0 0) (by decide) trivial
  have hB1 := hB.up hV1 (⟨Nat.le_refl _, by omega⟩)
  replace hF := hF.to (rdb_e (z := V1) hV1.symm)
  refine x_aload_n C.1 dX5_tell_5 0 rfl ?_
  refine x_iload_n C.1 dX5_tell_6 1 rfl ?_
  refine x_putI C (N := 129) (i := k0) (Nat.lt_of_succ_lt hk0.1) hk0.2.1 vc_X5 wx_X5 1 (by decide) wf_X5_23 tyX5 tyX5_ok nmX5 rfl (tyX5_ok 1 (by decide)) rfl dX5_tell_7 rfl rfl ?_
  refine x_gV ?_
  intro V2 hV2
  have hI2 : XU G V2 := hI1.up hV2 (rg_P hk0 1) (by omega) trivial
  have hB2 := hB1.up hV2 (⟨Nat.le_refl _, by omega⟩)
  replace hF := hF.to (rdb_e (z := V2) hV2.symm)
  refine x_aload_n C.1 dX5_tell_10 0 rfl ?_
  refine x_iload_n C.1 dX5_tell_11 2 rfl ?_
  refine x_putI C (N := 129) (i := k0) (Nat.lt_of_succ_lt hk0.1) hk0.2.1 vc_X5 wx_X5 2 (by decide) wf_X5_26 tyX5 tyX5_ok nmX5 rfl (tyX5_ok 2 (by decide)) rfl dX5_tell_12 rfl rfl ?_
  refine x_gV ?_
  intro V3 hV3
  have hI3 : XU G V3 := hI2.up hV3 (rg_P hk0 2) (by omega) trivial
  have hB3 := hB2.up hV3 (⟨Nat.le_refl _, by omega⟩)
  replace hF := hF.to (rdb_e (z := V3) hV3.symm)
  refine x_aload_n C.1 dX5_tell_15 0 rfl ?_
  refine x_iload_n C.1 dX5_tell_16 3 rfl ?_
  refine x_putI C (N := 129) (i := k0) (Nat.lt_of_succ_lt hk0.1) hk0.2.1 vc_X5 wx_X5 3 (by decide) wf_X5_29 tyX5 tyX5_ok nmX5 rfl (tyX5_ok 3 (by decide)) rfl dX5_tell_17 rfl rfl ?_
  refine x_gV ?_
  intro V4 hV4
  have hI4 : XU G V4 := hI3.up hV4 (rg_P hk0 3) (by omega) trivial
  have hB4 := hB3.up hV4 (⟨Nat.le_refl _, by omega⟩)
  replace hF := hF.to (rdb_e (z := V4) hV4.symm)
  refine x_aload_n C.1 dX5_tell_20 0 rfl ?_
  refine x_iconst C.1 (n := 0) dX5_tell_21 ?_
  refine x_putI C (N := 129) (i := k0) (Nat.lt_of_succ_lt hk0.1) hk0.2.1 vc_X5 wx_X5 4 (by decide) wf_X5_32 tyX5 tyX5_ok nmX5 rfl (tyX5_ok 4 (by decide)) rfl dX5_tell_22 rfl rfl ?_
  refine x_gV ?_
  intro V5 hV5
  have hI5 : XU G V5 := hI4.up hV5 (rg_P hk0 4) (by decide) trivial
  have hB5 := hB4.up hV5 (⟨Nat.le_refl _, by omega⟩)
  replace hF := hF.to (rdb_e (z := V5) hV5.symm)
  refine x_aload_n C.1 dX5_tell_25 0 rfl ?_
  refine x_iconst C.1 (n := 0) dX5_tell_26 ?_
  refine x_putI C (N := 129) (i := k0) (Nat.lt_of_succ_lt hk0.1) hk0.2.1 vc_X5 wx_X5 5 (by decide) wf_X5_35 tyX5 tyX5_ok nmX5 rfl (tyX5_ok 5 (by decide)) rfl dX5_tell_27 rfl rfl ?_
  refine x_gV ?_
  intro V6 hV6
  have hI6 : XU G V6 := hI5.up hV6 (rg_P hk0 5) (by decide) trivial
  have hB6 := hB5.up hV6 (⟨Nat.le_refl _, by omega⟩)
  replace hF := hF.to (rdb_e (z := V6) hV6.symm)
  refine x_aload_n C.1 dX5_tell_30 0 rfl ?_
  refine x_iconst C.1 (n := 0) dX5_tell_31 ?_
  refine x_putI C (N := 129) (i := k0) (Nat.lt_of_succ_lt hk0.1) hk0.2.1 vc_X5 wx_X5 6 (by decide) wf_X5_38 tyX5 tyX5_ok nmX5 rfl (tyX5_ok 6 (by decide)) rfl dX5_tell_32 (by decide) (by decide) ?_
  refine x_gV ?_
  intro V7 hV7
  have hI7 : XU G V7 := hI6.up hV7 (rg_P hk0 6) (by decide) trivial
  have hB7 := hB6.up hV7 (⟨Nat.le_refl _, by omega⟩)
  replace hF := hF.to (rdb_e (z := V7) hV7.symm)
  refine x_aload_n C.1 dX5_tell_35 0 rfl ?_
  refine x_iconst C.1 (n := -1) dX5_tell_36 ?_
  refine x_putI C (N := 129) (i := k0) (Nat.lt_of_succ_lt hk0.1) hk0.2.1 vc_X5 wx_X5 7 (by decide) wf_X5_9 tyX5 tyX5_ok nmX5 rfl (tyX5_ok 7 (by decide)) rfl dX5_tell_37 rfl rfl ?_
  refine x_gV ?_
  intro V8 hV8
  have hI8 : XU G V8 := hI7.up hV8 (rg_P hk0 7) (by decide) trivial
  have hB8 := hB7.up hV8 (⟨Nat.le_refl _, by omega⟩)
  replace hF := hF.to (rdb_e (z := V8) hV8.symm)
  refine x_aload_n C.1 dX5_tell_40 0 rfl ?_
  refine x_getA C (N := 129) (i := k0) (Nat.lt_of_succ_lt hk0.1) hk0.2.1 vc_X5 wx_X5 8 (by decide) wf_X5_15 (a := k0 + 1) rfl dX5_tell_41 ?_
  refine x_aload_n C.1 dX5_tell_44 0 rfl ?_
  refine x_getI C (N := 129) (i := k0) (Nat.lt_of_succ_lt hk0.1) hk0.2.1 vc_X5 wx_X5 2 (by decide) wf_X5_26 rfl dX5_tell_45 (a := x2) ((congrFun (congrFun hV8 k0) 2).trans ((up2_n _ _ (Or.inr (by decide))).trans ((congrFun (congrFun hV7 k0) 2).trans ((up2_n _ _ (Or.inr (by decide))).trans ((congrFun (congrFun hV6 k0) 2).trans ((up2_n _ _ (Or.inr (by decide))).trans ((congrFun (congrFun hV5 k0) 2).trans ((up2_n _ _ (Or.inr (by decide))).trans ((congrFun (congrFun hV4 k0) 2).trans ((up2_n _ _ (Or.inr (by decide))).trans ((congrFun (congrFun hV3 k0) 2).trans (up2_s _ _ _ _)))))))))))) ?_
  refine x_callSv C (As := [.ref (ad (k0 + 1)), vI x2]) (rest := []) (s_fillK l D cy ad G V8 J Rr hI8 hJ hR k0 hk0 x2 ⟨by omega, by omega⟩) (l1 := []) (l2 := []) (List.append_nil _).symm (w2 := fun u : Nat → Nat → Int => XW cy ad u J Rr) (fun _ => List.append_nil _) rfl wm_yJ7_fill_53178 wn_J7 wl_X5_41 wi_yJ7_fill_53178 hd_yJ7_fill_53178 rfl ⟨Nat.le_of_ble_eq_true rfl, Nat.le_of_ble_eq_true rfl⟩ (Nat.le_of_ble_eq_true rfl) ⟨Nat.le_of_ble_eq_true rfl, Nat.le_of_ble_eq_true rfl⟩ dX5_tell_48 (fun V9 h9 => ?_)
  obtain ⟨hI9, hBc9, hFc9⟩ := h9
  replace hF := calUX_i hF hFc9 hBc9
  have hB9 := hB8.tr hBc9 (fun i k h => (⟨by omega, by omega⟩))
  exact x_vret (S := (Nat → Nat → Int)) (post := (fun u : Nat → Nat → Int => XU G u ∧ FB (fun i k : Nat => (k0 ≤ i ∧ i ≤ k0 + 1)) V u ∧ (f_s_tell k0 x1 x2 x3 V J Rr) u)) (w1 := (fun u : Nat → Nat → Int => XW cy ad u J Rr)) C hr rfl dX5_tell_51 V9 rfl ⟨hI9, hB9, hF _ rfl⟩
theorem hd_yX5_tell : yX5_tell.cls ≠ "java/lang/invoke/MethodHandle" ∧ yX5_tell.cls ≠ "java/lang/invoke/VarHandle" ∧ (parseMethodDescriptor yX5_tell.desc).map (fun d => d.parameters.length) = some 3 := by decide +kernel
theorem dX11_plant_0 : decode cX11_plant 0 = .ok (.iload_n 1, 1) := by decide +kernel
theorem dX11_plant_1 : decode cX11_plant 1 = .ok (.iconst 4, 1) := by decide +kernel
theorem dX11_plant_2 : decode cX11_plant 2 = .ok (.invokestatic 70, 3) := by decide +kernel
theorem dX11_plant_5 : decode cX11_plant 5 = .ok (.ifCond .eq 13, 3) := by decide +kernel
theorem dX11_plant_8 : decode cX11_plant 8 = .ok (.iload_n 2, 1) := by decide +kernel
theorem dX11_plant_9 : decode cX11_plant 9 = .ok (.iconst 4, 1) := by decide +kernel
theorem dX11_plant_10 : decode cX11_plant 10 = .ok (.bipush 24, 2) := by decide +kernel
theorem dX11_plant_12 : decode cX11_plant 12 = .ok (.invokestatic 74, 3) := by decide +kernel
theorem dX11_plant_15 : decode cX11_plant 15 = .ok (.ifCond .ne 5, 3) := by decide +kernel
theorem dX11_plant_18 : decode cX11_plant 18 = .ok (.iconst 0, 1) := by decide +kernel
theorem dX11_plant_19 : decode cX11_plant 19 = .ok (.ireturn, 1) := by decide +kernel
theorem dX11_plant_20 : decode cX11_plant 20 = .ok (.iload_n 3, 1) := by decide +kernel
theorem dX11_plant_21 : decode cX11_plant 21 = .ok (.iconst 0, 1) := by decide +kernel
theorem dX11_plant_22 : decode cX11_plant 22 = .ok (.iload_n 2, 1) := by decide +kernel
theorem dX11_plant_23 : decode cX11_plant 23 = .ok (.invokestatic 74, 3) := by decide +kernel
theorem dX11_plant_26 : decode cX11_plant 26 = .ok (.ifCond .eq 14, 3) := by decide +kernel
theorem dX11_plant_29 : decode cX11_plant 29 = .ok (.iload 4, 2) := by decide +kernel
theorem dX11_plant_31 : decode cX11_plant 31 = .ok (.iconst 1, 1) := by decide +kernel
theorem dX11_plant_32 : decode cX11_plant 32 = .ok (.bipush 9, 2) := by decide +kernel
theorem dX11_plant_34 : decode cX11_plant 34 = .ok (.invokestatic 74, 3) := by decide +kernel
theorem dX11_plant_37 : decode cX11_plant 37 = .ok (.ifCond .ne 5, 3) := by decide +kernel
theorem dX11_plant_40 : decode cX11_plant 40 = .ok (.iconst 0, 1) := by decide +kernel
theorem dX11_plant_41 : decode cX11_plant 41 = .ok (.ireturn, 1) := by decide +kernel
theorem dX11_plant_42 : decode cX11_plant 42 = .ok (.aload_n 0, 1) := by decide +kernel
theorem dX11_plant_43 : decode cX11_plant 43 = .ok (.getfield 10, 3) := by decide +kernel
theorem dX11_plant_46 : decode cX11_plant 46 = .ok (.getfield 78, 3) := by decide +kernel
theorem dX11_plant_49 : decode cX11_plant 49 = .ok (.iload_n 1, 1) := by decide +kernel
theorem dX11_plant_50 : decode cX11_plant 50 = .ok (.aaload, 1) := by decide +kernel
theorem dX11_plant_51 : decode cX11_plant 51 = .ok (.iload_n 2, 1) := by decide +kernel
theorem dX11_plant_52 : decode cX11_plant 52 = .ok (.iload_n 3, 1) := by decide +kernel
theorem dX11_plant_53 : decode cX11_plant 53 = .ok (.iload 4, 2) := by decide +kernel
theorem dX11_plant_55 : decode cX11_plant 55 = .ok (.invokevirtual 82, 3) := by decide +kernel
theorem dX11_plant_58 : decode cX11_plant 58 = .ok (.iconst 1, 1) := by decide +kernel
theorem dX11_plant_59 : decode cX11_plant 59 = .ok (.ireturn, 1) := by decide +kernel
set_option maxRecDepth 100000 in
def f_s_plant (x1 : Int) (x2 : Int) (x3 : Int) (x4 : Int) (V : Nat → Nat → Int) (J : Nat → Nat → Int) (Rr : Nat → Nat → Nat) : (Int × (Nat → Nat → Int)) → Prop :=
  calR (f_s_isPlace x1 4) fun z1 => fct (0 ≤ z1 ∧ z1 ≤ 1) <| (if z1 = 0 then rtn (0, V) else calR (f_s_isWithin x2 4 24) fun z5 => fct (0 ≤ z5 ∧ z5 ≤ 1) <| (if ¬ z5 = 0 then calR (f_s_isWithin x3 0 x2) fun z8 => fct (0 ≤ z8 ∧ z8 ≤ 1) <| (if z8 = 0 then rtn (0, V) else calR (f_s_isWithin x4 1 9) fun z12 => fct (0 ≤ z12 ∧ z12 ≤ 1) <| (if ¬ z12 = 0 then rdb (1 + 3 + 2 * x1.toNat) fun c15 => calUX (fun i k : Nat => (c15 ≤ i ∧ i ≤ c15 + 1)) V (f_s_tell c15 x2 x3 x4 V J Rr) fun V16 => rtn (1, V16) else rtn (0, V))) else rtn (0, V)))
set_option maxHeartbeats 8000000 in
set_option maxRecDepth 100000 in
theorem s_plant (l : Launch) (D : va_G) (cy : Nat → ClassId) (ad : Nat → Nat) (G : Nat → Nat → Int) (V J : Nat → Nat → Int) (Rr : Nat → Nat → Nat) (hI : XU G V) (hJ : VJ J) (hR : XR Rr) (x1 : Int) (bx1 : -2147483648 ≤ x1 ∧ x1 ≤ 2147483647) (x2 : Int) (bx2 : -2147483648 ≤ x2 ∧ x2 ≤ 2147483647) (x3 : Int) (bx3 : -2147483648 ≤ x3 ∧ x3 ≤ 2147483647) (x4 : Int) (bx4 : -2147483648 ≤ x4 ∧ x4 ≤ 2147483647) : xMi l D (xTY cy) yX11_plant cX11_plant 5 (some .boolean) 2 46 0 0 [.ref (ad 0), vI x1, vI x2, vI x3, vI x4] (XW cy ad V J Rr) (fun u : Nat → Nat → Int => XW cy ad u J Rr) (fun a (u : Nat → Nat → Int) => XU G u ∧ ((a = 1 ∧ 0 ≤ x1 ∧ x1 < 4 ∧ 4 ≤ x2 ∧ x2 ≤ 24 ∧ 0 ≤ x3 ∧ x3 ≤ x2 ∧ 1 ≤ x4 ∧ x4 ≤ 9) ∨ (a = 0 ∧ ¬ (0 ≤ x1 ∧ x1 < 4 ∧ 4 ≤ x2 ∧ x2 ≤ 24 ∧ 0 ≤ x3 ∧ x3 ≤ x2 ∧ 1 ≤ x4 ∧ x4 ≤ 9))) ∧ FB (fun i k : Nat => (1 ≤ i ∧ i ≤ 19)) V u ∧ (f_s_plant x1 x2 x3 x4 V J Rr) (a, u)) := by
  refine xMi.mk (lv0 := [(0, .ref (ad 0)), (1, vI x1), (2, vI x2), (3, vI x3), (4, vI x4)]) (by decide) rfl (Nat.le_of_ble_eq_true rfl) (fun p e s m below meth c A C hr hnm hAe => ?_)
  have C : xC2 p s m _ meth c D A s.heap 5 cX11_plant RX11 (xTY cy) := C
  have hB : FB (fun i k : Nat => (1 ≤ i ∧ i ≤ 19)) V V := FB.rf _ _
  have hF := Imp.of_eq (f_s_plant.eq_def x1 x2 x3 x4 V J Rr)
  refine x_iload_n C.1 dX11_plant_0 1 rfl ?_
  refine x_iconst C.1 (n := 4) dX11_plant_1 ?_
  refine x_callSi C (As := [vI x1, vI 4]) (rest := []) (s_isPlace l D cy x1 ⟨by omega, by omega⟩ 4 ⟨by decide, by decide⟩) (l1 := []) (l2 := _) rfl (w2 := fun _ => _) (fun _ => rfl) rfl wm_yX11_isPlace wn_X11 wl_X11_70 wi_yX11_isPlace hd_yX11_isPlace rfl ⟨Nat.le_of_ble_eq_true rfl, Nat.le_of_ble_eq_true rfl⟩ (Nat.le_of_ble_eq_true rfl) ⟨Nat.le_of_ble_eq_true rfl, Nat.le_of_ble_eq_true rfl⟩ dX11_plant_2 (fun z1 u1 bz1 h1 => ?_)
  obtain ⟨bq1, hx1_0, hFc1⟩ := h1
  replace hF := calR_i hF hFc1
  replace hF := hF.fc bq1
  refine x_if_eq C.1 (tgt := 18) dX11_plant_5 (by decide) (by omega) (fun hc2 => ?_) (fun hc2 => ?_)
  · replace hF := hF.to (if_pos hc2)
    have hof3 := Sq.off hx1_0 (by omega)
    refine x_iconst C.1 (n := 0) dX11_plant_18 ?_
    exact x_zret (S := (Nat → Nat → Int)) (post := (fun a (u : Nat → Nat → Int) => XU G u ∧ ((a = 1 ∧ 0 ≤ x1 ∧ x1 < 4 ∧ 4 ≤ x2 ∧ x2 ≤ 24 ∧ 0 ≤ x3 ∧ x3 ≤ x2 ∧ 1 ≤ x4 ∧ x4 ≤ 9) ∨ (a = 0 ∧ ¬ (0 ≤ x1 ∧ x1 < 4 ∧ 4 ≤ x2 ∧ x2 ≤ 24 ∧ 0 ≤ x3 ∧ x3 ≤ x2 ∧ 1 ≤ x4 ∧ x4 ≤ 9))) ∧ FB (fun i k : Nat => (1 ≤ i ∧ i ≤ 19)) V u ∧ (f_s_plant x1 x2 x3 x4 V J Rr) (a, u))) (w1 := (fun u : Nat → Nat → Int => XW cy ad u J Rr)) (a := 0) C hr rfl dX11_plant_19 (by decide) V rfl ⟨hI, (by omega), hB, hF _ rfl⟩
  · replace hF := hF.to (if_neg hc2)
    have hon4 := Sq.on hx1_0 (by omega)
    refine x_iload_n C.1 dX11_plant_8 2 rfl ?_
    refine x_iconst C.1 (n := 4) dX11_plant_9 ?_
    refine x_bipush C.1 (n := 24) dX11_plant_10 ?_
    refine x_callSi C (As := [vI x2, vI 4, vI 24]) (rest := []) (s_isWithin l D cy x2 ⟨by omega, by omega⟩ 4 ⟨by decide, by decide⟩ 24 ⟨by decide, by decide⟩) (l1 := []) (l2 := _) rfl (w2 := fun _ => _) (fun _ => rfl) rfl wm_yX11_isWithin wn_X11 wl_X11_74 wi_yX11_isWithin hd_yX11_isWithin rfl ⟨Nat.le_of_ble_eq_true rfl, Nat.le_of_ble_eq_true rfl⟩ (Nat.le_of_ble_eq_true rfl) ⟨Nat.le_of_ble_eq_true rfl, Nat.le_of_ble_eq_true rfl⟩ dX11_plant_12 (fun z5 u5 bz5 h5 => ?_)
    obtain ⟨bq5, hx5_0, hFc5⟩ := h5
    replace hF := calR_i hF hFc5
    replace hF := hF.fc bq5
    refine x_if_ne C.1 (tgt := 20) dX11_plant_15 (by decide) (by omega) (fun hc6 => ?_) (fun hc6 => ?_)
    · replace hF := hF.to (if_pos hc6)
      have hon7 := Sq.on hx5_0 (by omega)
      refine x_iload_n C.1 dX11_plant_20 3 rfl ?_
      refine x_iconst C.1 (n := 0) dX11_plant_21 ?_
      refine x_iload_n C.1 dX11_plant_22 2 rfl ?_
      refine x_callSi C (As := [vI x3, vI 0, vI x2]) (rest := []) (s_isWithin l D cy x3 ⟨by omega, by omega⟩ 0 ⟨by decide, by decide⟩ x2 ⟨by omega, by omega⟩) (l1 := []) (l2 := _) rfl (w2 := fun _ => _) (fun _ => rfl) rfl wm_yX11_isWithin wn_X11 wl_X11_74 wi_yX11_isWithin hd_yX11_isWithin rfl ⟨Nat.le_of_ble_eq_true rfl, Nat.le_of_ble_eq_true rfl⟩ (Nat.le_of_ble_eq_true rfl) ⟨Nat.le_of_ble_eq_true rfl, Nat.le_of_ble_eq_true rfl⟩ dX11_plant_23 (fun z8 u8 bz8 h8 => ?_)
      obtain ⟨bq8, hx8_0, hFc8⟩ := h8
      replace hF := calR_i hF hFc8
      replace hF := hF.fc bq8
      refine x_if_eq C.1 (tgt := 40) dX11_plant_26 (by decide) (by omega) (fun hc9 => ?_) (fun hc9 => ?_)
      · replace hF := hF.to (if_pos hc9)
        have hof10 := Sq.off hx8_0 (by omega)
        refine x_iconst C.1 (n := 0) dX11_plant_40 ?_
        exact x_zret (S := (Nat → Nat → Int)) (post := (fun a (u : Nat → Nat → Int) => XU G u ∧ ((a = 1 ∧ 0 ≤ x1 ∧ x1 < 4 ∧ 4 ≤ x2 ∧ x2 ≤ 24 ∧ 0 ≤ x3 ∧ x3 ≤ x2 ∧ 1 ≤ x4 ∧ x4 ≤ 9) ∨ (a = 0 ∧ ¬ (0 ≤ x1 ∧ x1 < 4 ∧ 4 ≤ x2 ∧ x2 ≤ 24 ∧ 0 ≤ x3 ∧ x3 ≤ x2 ∧ 1 ≤ x4 ∧ x4 ≤ 9))) ∧ FB (fun i k : Nat => (1 ≤ i ∧ i ≤ 19)) V u ∧ (f_s_plant x1 x2 x3 x4 V J Rr) (a, u))) (w1 := (fun u : Nat → Nat → Int => XW cy ad u J Rr)) (a := 0) C hr rfl dX11_plant_41 (by decide) V rfl ⟨hI, (by omega), hB, hF _ rfl⟩
      · replace hF := hF.to (if_neg hc9)
        have hon11 := Sq.on hx8_0 (by omega)
        refine x_iload C.1 dX11_plant_29 4 rfl ?_
        refine x_iconst C.1 (n := 1) dX11_plant_31 ?_
        refine x_bipush C.1 (n := 9) dX11_plant_32 ?_
        refine x_callSi C (As := [vI x4, vI 1, vI 9]) (rest := []) (s_isWithin l D cy x4 ⟨by omega, by omega⟩ 1 ⟨by decide, by decide⟩ 9 ⟨by decide, by decide⟩) (l1 := []) (l2 := _) rfl (w2 := fun _ => _) (fun _ => rfl) rfl wm_yX11_isWithin wn_X11 wl_X11_74 wi_yX11_isWithin hd_yX11_isWithin rfl ⟨Nat.le_of_ble_eq_true rfl, Nat.le_of_ble_eq_true rfl⟩ (Nat.le_of_ble_eq_true rfl) ⟨Nat.le_of_ble_eq_true rfl, Nat.le_of_ble_eq_true rfl⟩ dX11_plant_34 (fun z12 u12 bz12 h12 => ?_)
        obtain ⟨bq12, hx12_0, hFc12⟩ := h12
        replace hF := calR_i hF hFc12
        replace hF := hF.fc bq12
        refine x_if_ne C.1 (tgt := 42) dX11_plant_37 (by decide) (by omega) (fun hc13 => ?_) (fun hc13 => ?_)
        · replace hF := hF.to (if_pos hc13)
          have hon14 := Sq.on hx12_0 (by omega)
          refine x_aload_n C.1 dX11_plant_42 0 rfl ?_
          refine x_getA C (N := 129) (i := 0) (by decide) rfl vc_X11 wx_X11 0 (by decide) wf_X11_10 (a := 1) rfl dX11_plant_43 ?_
          refine x_getA C (N := 129) (i := 1) (by omega) (xd_L (Or.inl rfl)) vc_X3 wx_X3 0 (by decide) wf_X11_78 (a := 2) rfl dX11_plant_46 ?_
          refine x_iload_n C.1 dX11_plant_49 1 rfl ?_
          obtain ⟨c15, ec15, hc15⟩ : ∃ cx : Nat, 1 + 3 + 2 * x1.toNat = cx ∧ isPl cx := ⟨_, rfl, isPl_L (Or.inl rfl) (by omega)⟩
          replace hF := hF.to (rdb_e (z := c15) ec15)
          refine x_aldS C (N := 129) (i := 2) (q := x1) (t := 4) rfl (by omega) (xd_La (Or.inl rfl)) (by omega) (by decide) dX11_plant_50 (a := c15) ec15 ?_
          refine x_iload_n C.1 dX11_plant_51 2 rfl ?_
          refine x_iload_n C.1 dX11_plant_52 3 rfl ?_
          refine x_iload C.1 dX11_plant_53 4 rfl ?_
          refine x_callVv C (As := [vI x2, vI x3, vI x4]) (rest := []) c15 (xw_at (N := 129) (i := c15) (Nat.lt_of_succ_lt hc15.1) hc15.2.1) vc_X5 (s_tell l D cy ad G V J Rr hI hJ hR c15 hc15 x2 ⟨by omega, by omega⟩ x3 ⟨by omega, by omega⟩ x4 ⟨by omega, by omega⟩) (l1 := []) (l2 := []) (List.append_nil _).symm (w2 := fun u : Nat → Nat → Int => XW cy ad u J Rr) (fun _ => List.append_nil _) rfl wm_yX5_tell wn_X5 wl_X11_82 wi_yX5_tell we_yX5_tell hd_yX5_tell rfl ⟨Nat.le_of_ble_eq_true rfl, Nat.le_of_ble_eq_true rfl⟩ (Nat.le_of_ble_eq_true rfl) ⟨Nat.le_of_ble_eq_true rfl, Nat.le_of_ble_eq_true rfl⟩ dX11_plant_55 (fun V16 h16 => ?_)
          obtain ⟨hI16, hBc16, hFc16⟩ := h16
          replace hF := calUX_i hF hFc16 hBc16
          have hB16 := hB.tr hBc16 (fun i k h => (⟨by omega, by omega⟩))
          refine x_iconst C.1 (n := 1) dX11_plant_58 ?_
          exact x_zret (S := (Nat → Nat → Int)) (post := (fun a (u : Nat → Nat → Int) => XU G u ∧ ((a = 1 ∧ 0 ≤ x1 ∧ x1 < 4 ∧ 4 ≤ x2 ∧ x2 ≤ 24 ∧ 0 ≤ x3 ∧ x3 ≤ x2 ∧ 1 ≤ x4 ∧ x4 ≤ 9) ∨ (a = 0 ∧ ¬ (0 ≤ x1 ∧ x1 < 4 ∧ 4 ≤ x2 ∧ x2 ≤ 24 ∧ 0 ≤ x3 ∧ x3 ≤ x2 ∧ 1 ≤ x4 ∧ x4 ≤ 9))) ∧ FB (fun i k : Nat => (1 ≤ i ∧ i ≤ 19)) V u ∧ (f_s_plant x1 x2 x3 x4 V J Rr) (a, u))) (w1 := (fun u : Nat → Nat → Int => XW cy ad u J Rr)) (a := 1) C hr rfl dX11_plant_59 (by decide) V16 rfl ⟨hI16, (by omega), hB16, hF _ rfl⟩
        · replace hF := hF.to (if_neg (fun hh => hh hc13))
          have hof17 := Sq.off hx12_0 (by omega)
          refine x_iconst C.1 (n := 0) dX11_plant_40 ?_
          exact x_zret (S := (Nat → Nat → Int)) (post := (fun a (u : Nat → Nat → Int) => XU G u ∧ ((a = 1 ∧ 0 ≤ x1 ∧ x1 < 4 ∧ 4 ≤ x2 ∧ x2 ≤ 24 ∧ 0 ≤ x3 ∧ x3 ≤ x2 ∧ 1 ≤ x4 ∧ x4 ≤ 9) ∨ (a = 0 ∧ ¬ (0 ≤ x1 ∧ x1 < 4 ∧ 4 ≤ x2 ∧ x2 ≤ 24 ∧ 0 ≤ x3 ∧ x3 ≤ x2 ∧ 1 ≤ x4 ∧ x4 ≤ 9))) ∧ FB (fun i k : Nat => (1 ≤ i ∧ i ≤ 19)) V u ∧ (f_s_plant x1 x2 x3 x4 V J Rr) (a, u))) (w1 := (fun u : Nat → Nat → Int => XW cy ad u J Rr)) (a := 0) C hr rfl dX11_plant_41 (by decide) V rfl ⟨hI, (by omega), hB, hF _ rfl⟩
    · replace hF := hF.to (if_neg (fun hh => hh hc6))
      have hof18 := Sq.off hx5_0 (by omega)
      refine x_iconst C.1 (n := 0) dX11_plant_18 ?_
      exact x_zret (S := (Nat → Nat → Int)) (post := (fun a (u : Nat → Nat → Int) => XU G u ∧ ((a = 1 ∧ 0 ≤ x1 ∧ x1 < 4 ∧ 4 ≤ x2 ∧ x2 ≤ 24 ∧ 0 ≤ x3 ∧ x3 ≤ x2 ∧ 1 ≤ x4 ∧ x4 ≤ 9) ∨ (a = 0 ∧ ¬ (0 ≤ x1 ∧ x1 < 4 ∧ 4 ≤ x2 ∧ x2 ≤ 24 ∧ 0 ≤ x3 ∧ x3 ≤ x2 ∧ 1 ≤ x4 ∧ x4 ≤ 9))) ∧ FB (fun i k : Nat => (1 ≤ i ∧ i ≤ 19)) V u ∧ (f_s_plant x1 x2 x3 x4 V J Rr) (a, u))) (w1 := (fun u : Nat → Nat → Int => XW cy ad u J Rr)) (a := 0) C hr rfl dX11_plant_19 (by decide) V rfl ⟨hI, (by omega), hB, hF _ rfl⟩
theorem dX11_card_0 : decode cX11_card 0 = .ok (.aload_n 0, 1) := by decide +kernel
theorem dX11_card_1 : decode cX11_card 1 = .ok (.getfield 10, 3) := by decide +kernel
theorem dX11_card_4 : decode cX11_card 4 = .ok (.iload_n 1, 1) := by decide +kernel
theorem dX11_card_5 : decode cX11_card 5 = .ok (.invokevirtual 91, 3) := by decide +kernel
theorem dX11_card_8 : decode cX11_card 8 = .ok (.ifCond .eq 19, 3) := by decide +kernel
theorem dX11_card_11 : decode cX11_card 11 = .ok (.aload_n 0, 1) := by decide +kernel
theorem dX11_card_12 : decode cX11_card 12 = .ok (.getfield 10, 3) := by decide +kernel
theorem dX11_card_15 : decode cX11_card 15 = .ok (.getfield 78, 3) := by decide +kernel
theorem dX11_card_18 : decode cX11_card 18 = .ok (.iload_n 1, 1) := by decide +kernel
theorem dX11_card_19 : decode cX11_card 19 = .ok (.aaload, 1) := by decide +kernel
theorem dX11_card_20 : decode cX11_card 20 = .ok (.getfield 95, 3) := by decide +kernel
theorem dX11_card_23 : decode cX11_card 23 = .ok (.iload_n 2, 1) := by decide +kernel
theorem dX11_card_24 : decode cX11_card 24 = .ok (.if_icmp .ne 5, 3) := by decide +kernel
theorem dX11_card_27 : decode cX11_card 27 = .ok (.iconst 0, 1) := by decide +kernel
theorem dX11_card_28 : decode cX11_card 28 = .ok (.ireturn, 1) := by decide +kernel
theorem dX11_card_29 : decode cX11_card 29 = .ok (.aload_n 0, 1) := by decide +kernel
theorem dX11_card_30 : decode cX11_card 30 = .ok (.getfield 10, 3) := by decide +kernel
theorem dX11_card_33 : decode cX11_card 33 = .ok (.getfield 78, 3) := by decide +kernel
theorem dX11_card_36 : decode cX11_card 36 = .ok (.iload_n 1, 1) := by decide +kernel
theorem dX11_card_37 : decode cX11_card 37 = .ok (.aaload, 1) := by decide +kernel
theorem dX11_card_38 : decode cX11_card 38 = .ok (.iload_n 2, 1) := by decide +kernel
theorem dX11_card_39 : decode cX11_card 39 = .ok (.putfield 95, 3) := by decide +kernel
theorem dX11_card_42 : decode cX11_card 42 = .ok (.aload_n 0, 1) := by decide +kernel
theorem dX11_card_43 : decode cX11_card 43 = .ok (.getfield 10, 3) := by decide +kernel
theorem dX11_card_46 : decode cX11_card 46 = .ok (.getfield 78, 3) := by decide +kernel
theorem dX11_card_49 : decode cX11_card 49 = .ok (.iload_n 1, 1) := by decide +kernel
theorem dX11_card_50 : decode cX11_card 50 = .ok (.aaload, 1) := by decide +kernel
theorem dX11_card_51 : decode cX11_card 51 = .ok (.iconst (-1), 1) := by decide +kernel
theorem dX11_card_52 : decode cX11_card 52 = .ok (.putfield 99, 3) := by decide +kernel
theorem dX11_card_55 : decode cX11_card 55 = .ok (.iconst 1, 1) := by decide +kernel
theorem dX11_card_56 : decode cX11_card 56 = .ok (.ireturn, 1) := by decide +kernel
set_option maxRecDepth 100000 in
def f_s_card (x1 : Int) (x2 : Int) (V : Nat → Nat → Int) (J : Nat → Nat → Int) (Rr : Nat → Nat → Nat) : (Int × (Nat → Nat → Int)) → Prop :=
  calR (f_s_isPlant 1 x1 V J Rr) fun z1 => fct (0 ≤ z1 ∧ z1 ≤ 1) <| (if z1 = 0 then rtn (0, V) else rdb (1 + 3 + 2 * x1.toNat) fun c4 => rdb (V c4 6) fun z5 => fct (0 ≤ z5 ∧ z5 ≤ 1) <| (if ¬ z5 = x2 then rdb (up2 V c4 6 x2) fun V7 => rdb (up2 V7 c4 7 (-1)) fun V8 => rtn (1, V8) else rtn (0, V)))
set_option maxHeartbeats 8000000 in
set_option maxRecDepth 100000 in
theorem s_card (l : Launch) (D : va_G) (cy : Nat → ClassId) (ad : Nat → Nat) (G : Nat → Nat → Int) (V J : Nat → Nat → Int) (Rr : Nat → Nat → Nat) (hI : XU G V) (hJ : VJ J) (hR : XR Rr) (x1 : Int) (bx1 : -2147483648 ≤ x1 ∧ x1 ≤ 2147483647) (x2 : Int) (bx2 : 0 ≤ x2 ∧ x2 ≤ 1) : xMi l D (xTY cy) yX11_card cX11_card 3 (some .boolean) 2 42 0 0 [.ref (ad 0), vI x1, vI x2] (XW cy ad V J Rr) (fun u : Nat → Nat → Int => XW cy ad u J Rr) (fun a (u : Nat → Nat → Int) => XU G u ∧ (0 ≤ a ∧ a ≤ 1) ∧ FB (fun i k : Nat => (1 ≤ i ∧ i ≤ 19)) V u ∧ (f_s_card x1 x2 V J Rr) (a, u)) := by
  refine xMi.mk (lv0 := [(0, .ref (ad 0)), (1, vI x1), (2, vI x2)]) (by decide) rfl (Nat.le_of_ble_eq_true rfl) (fun p e s m below meth c A C hr hnm hAe => ?_)
  have C : xC2 p s m _ meth c D A s.heap 3 cX11_card RX11 (xTY cy) := C
  have hB : FB (fun i k : Nat => (1 ≤ i ∧ i ≤ 19)) V V := FB.rf _ _
  have hF := Imp.of_eq (f_s_card.eq_def x1 x2 V J Rr)
  refine x_aload_n C.1 dX11_card_0 0 rfl ?_
  refine x_getA C (N := 129) (i := 0) (by decide) rfl vc_X11 wx_X11 0 (by decide) wf_X11_10 (a := 1) rfl dX11_card_1 ?_
  refine x_iload_n C.1 dX11_card_4 1 rfl ?_
  refine x_callVi C (As := [vI x1]) (rest := []) 1 (xw_at (N := 129) (i := 1) (by omega) (xd_L (Or.inl rfl))) vc_X3 (s_isPlant l D cy ad V V J Rr hI hJ hR 1 (Or.inl rfl) x1 ⟨by omega, by omega⟩) (l1 := []) (l2 := []) (List.append_nil _).symm (w2 := fun _ => XW cy ad V J Rr) (fun _ => List.append_nil _) rfl wm_yX3_isPlant wn_X3 wl_X11_91 wi_yX3_isPlant we_yX3_isPlant hd_yX3_isPlant rfl ⟨Nat.le_of_ble_eq_true rfl, Nat.le_of_ble_eq_true rfl⟩ (Nat.le_of_ble_eq_true rfl) ⟨Nat.le_of_ble_eq_true rfl, Nat.le_of_ble_eq_true rfl⟩ dX11_card_5 (fun z1 u1 bz1 h1 => ?_)
  obtain ⟨hon1, hFc1⟩ := h1
  replace hF := calR_i hF hFc1
  replace hF := hF.fc hon1.r
  have bq1 := Sp.r hon1
  refine x_if_eq C.1 (tgt := 27) dX11_card_8 (by decide) (by omega) (fun hc2 => ?_) (fun hc2 => ?_)
  · replace hF := hF.to (if_pos hc2)
    refine x_iconst C.1 (n := 0) dX11_card_27 ?_
    exact x_zret (S := (Nat → Nat → Int)) (post := (fun a (u : Nat → Nat → Int) => XU G u ∧ (0 ≤ a ∧ a ≤ 1) ∧ FB (fun i k : Nat => (1 ≤ i ∧ i ≤ 19)) V u ∧ (f_s_card x1 x2 V J Rr) (a, u))) (w1 := (fun u : Nat → Nat → Int => XW cy ad u J Rr)) (a := 0) C hr rfl dX11_card_28 (by decide) V rfl ⟨hI, ⟨by decide, by decide⟩, hB, hF _ rfl⟩
  · replace hF := hF.to (if_neg hc2)
    have hon3 := Sp.on hon1 (by omega)
    refine x_aload_n C.1 dX11_card_11 0 rfl ?_
    refine x_getA C (N := 129) (i := 0) (by decide) rfl vc_X11 wx_X11 0 (by decide) wf_X11_10 (a := 1) rfl dX11_card_12 ?_
    refine x_getA C (N := 129) (i := 1) (by omega) (xd_L (Or.inl rfl)) vc_X3 wx_X3 0 (by decide) wf_X11_78 (a := 2) rfl dX11_card_15 ?_
    refine x_iload_n C.1 dX11_card_18 1 rfl ?_
    obtain ⟨c4, ec4, hc4⟩ : ∃ cx : Nat, 1 + 3 + 2 * x1.toNat = cx ∧ isPl cx := ⟨_, rfl, isPl_L (Or.inl rfl) (by omega)⟩
    replace hF := hF.to (rdb_e (z := c4) ec4)
    refine x_aldS C (N := 129) (i := 2) (q := x1) (t := 4) rfl (by omega) (xd_La (Or.inl rfl)) (by omega) (by decide) dX11_card_19 (a := c4) ec4 ?_
    obtain ⟨z5, ez5, bz5⟩ := hI.rd c4 6 (x := 0) (y := 1) (rg_P hc4 6)
    replace hF := hF.to (rdb_e (z := z5) ez5)
    replace hF := hF.fc bz5
    refine x_getI C (N := 129) (i := c4) (Nat.lt_of_succ_lt hc4.1) hc4.2.1 vc_X5 wx_X5 6 (by decide) wf_X11_95 rfl dX11_card_20 (a := z5) ez5 ?_
    refine x_iload_n C.1 dX11_card_23 2 rfl ?_
    refine x_icmp_ne C.1 (tgt := 29) dX11_card_24 (by decide) (by omega) (by omega) (fun hc6 => ?_) (fun hc6 => ?_)
    · replace hF := hF.to (if_pos hc6)
      refine x_aload_n C.1 dX11_card_29 0 rfl ?_
      refine x_getA C (N := 129) (i := 0) (by decide) rfl vc_X11 wx_X11 0 (by decide) wf_X11_10 (a := 1) rfl dX11_card_30 ?_
      refine x_getA C (N := 129) (i := 1) (by omega) (xd_L (Or.inl rfl)) vc_X3 wx_X3 0 (by decide) wf_X11_78 (a := 2) rfl dX11_card_33 ?_
      refine x_iload_n C.1 dX11_card_36 1 rfl ?_
      refine x_aldS C (N := 129) (i := 2) (q := x1) (t := 4) rfl (by omega) (xd_La (Or.inl rfl)) (by omega) (by decide) dX11_card_37 (a := c4) ec4 ?_
      refine x_iload_n C.1 dX11_card_38 2 rfl ?_
      refine x_putI C (N := 129) (i := c4) (Nat.lt_of_succ_lt hc4.1) hc4.2.1 vc_X5 wx_X5 6 (by decide) wf_X11_95 tyX5 tyX5_ok nmX5 rfl (tyX5_ok 6 (by decide)) rfl dX11_card_39 (z_nar (by omega)) (z_fit (by omega)) ?_
      refine x_gV ?_
      intro V7 hV7
      have hI7 : XU G V7 := hI.up hV7 (rg_P hc4 6) (by omega) trivial
      have hB7 := hB.up hV7 (⟨by omega, by omega⟩)
      replace hF := hF.to (rdb_e (z := V7) hV7.symm)
      refine x_aload_n C.1 dX11_card_42 0 rfl ?_
      refine x_getA C (N := 129) (i := 0) (by decide) rfl vc_X11 wx_X11 0 (by decide) wf_X11_10 (a := 1) rfl dX11_card_43 ?_
      refine x_getA C (N := 129) (i := 1) (by omega) (xd_L (Or.inl rfl)) vc_X3 wx_X3 0 (by decide) wf_X11_78 (a := 2) rfl dX11_card_46 ?_
      refine x_iload_n C.1 dX11_card_49 1 rfl ?_
      refine x_aldS C (N := 129) (i := 2) (q := x1) (t := 4) rfl (by omega) (xd_La (Or.inl rfl)) (by omega) (by decide) dX11_card_50 (a := c4) ec4 ?_
      refine x_iconst C.1 (n := -1) dX11_card_51 ?_
      refine x_putI C (N := 129) (i := c4) (Nat.lt_of_succ_lt hc4.1) hc4.2.1 vc_X5 wx_X5 7 (by decide) wf_X11_99 tyX5 tyX5_ok nmX5 rfl (tyX5_ok 7 (by decide)) rfl dX11_card_52 rfl rfl ?_
      refine x_gV ?_
      intro V8 hV8
      have hI8 : XU G V8 := hI7.up hV8 (rg_P hc4 7) (by decide) trivial
      have hB8 := hB7.up hV8 (⟨by omega, by omega⟩)
      replace hF := hF.to (rdb_e (z := V8) hV8.symm)
      refine x_iconst C.1 (n := 1) dX11_card_55 ?_
      exact x_zret (S := (Nat → Nat → Int)) (post := (fun a (u : Nat → Nat → Int) => XU G u ∧ (0 ≤ a ∧ a ≤ 1) ∧ FB (fun i k : Nat => (1 ≤ i ∧ i ≤ 19)) V u ∧ (f_s_card x1 x2 V J Rr) (a, u))) (w1 := (fun u : Nat → Nat → Int => XW cy ad u J Rr)) (a := 1) C hr rfl dX11_card_56 (by decide) V8 rfl ⟨hI8, ⟨by decide, by decide⟩, hB8, hF _ rfl⟩
    · replace hF := hF.to (if_neg (fun hh => hh hc6))
      refine x_iconst C.1 (n := 0) dX11_card_27 ?_
      exact x_zret (S := (Nat → Nat → Int)) (post := (fun a (u : Nat → Nat → Int) => XU G u ∧ (0 ≤ a ∧ a ≤ 1) ∧ FB (fun i k : Nat => (1 ≤ i ∧ i ≤ 19)) V u ∧ (f_s_card x1 x2 V J Rr) (a, u))) (w1 := (fun u : Nat → Nat → Int => XW cy ad u J Rr)) (a := 0) C hr rfl dX11_card_28 (by decide) V rfl ⟨hI, ⟨by decide, by decide⟩, hB, hF _ rfl⟩
set_option maxRecDepth 100000 in
def f_s_copyPu (k0 : Nat) (k1 : Nat) (V : Nat → Nat → Int) (J : Nat → Nat → Int) (Rr : Nat → Nat → Nat) : (Nat → Nat → Int) → Prop :=
  rdb (V k1 0) fun z1 => fct (0 ≤ z1 ∧ z1 ≤ 1) <| rdb (up2 V k0 0 z1) fun V2 => rdb (V2 k1 1) fun z3 => rdb (up2 V2 k0 1 z3) fun V4 => rdb (V4 k1 2) fun z5 => rdb (up2 V4 k0 2 z5) fun V6 => rdb (V6 k1 3) fun z7 => rdb (up2 V6 k0 3 z7) fun V8 => rdb (V8 k1 4) fun z9 => rdb (up2 V8 k0 4 z9) fun V10 => rdb (V10 k1 5) fun z11 => rdb (up2 V10 k0 5 z11) fun V12 => rdb (V12 k1 6) fun z13 => fct (0 ≤ z13 ∧ z13 ≤ 1) <| rdb (up2 V12 k0 6 z13) fun V14 => rdb (V14 k1 7) fun z15 => rdb (up2 V14 k0 7 z15) fun V16 => rdb (cpV V16 (k1 + 1) 0 (k0 + 1) 0 7) fun V17 => rtn V17
set_option maxHeartbeats 8000000 in
set_option maxRecDepth 100000 in
theorem s_copyPu (l : Launch) (D : va_G) (cy : Nat → ClassId) (ad : Nat → Nat) (G : Nat → Nat → Int) (V J : Nat → Nat → Int) (Rr : Nat → Nat → Nat) (hI : XU G V) (hJ : VJ J) (hR : XR Rr) (k0 : Nat) (hk0 : isPl k0) (k1 : Nat) (hk1 : isPl k1) : xMv l D (xTY cy) yX5_copy cX5_copy 2 none 1 48 0 0 [.ref (ad k0), .ref (ad k1)] (XW cy ad V J Rr) (fun u : Nat → Nat → Int => XW cy ad u J Rr) (fun u : Nat → Nat → Int => XU G u ∧ FB (fun i k : Nat => (k0 ≤ i ∧ i ≤ k0 + 1)) V u ∧ (f_s_copyPu k0 k1 V J Rr) u) := by
  refine xMv.mk (lv0 := [(0, .ref (ad k0)), (1, .ref (ad k1))]) (by decide) rfl (Nat.le_of_ble_eq_true rfl) (fun p e s m below meth c A C hr hnm hAe => ?_)
  have C : xC2 p s m _ meth c D A s.heap 2 cX5_copy RX5 (xTY cy) := C
  have hB : FB (fun i k : Nat => (k0 ≤ i ∧ i ≤ k0 + 1)) V V := FB.rf _ _
  have hF := Imp.of_eq (f_s_copyPu.eq_def k0 k1 V J Rr)
  refine x_aload_n C.1 dX5_copy_0 0 rfl ?_
  refine x_aload_n C.1 dX5_copy_1 1 rfl ?_
  obtain ⟨z1, ez1, bz1⟩ := hI.rd k1 0 (x := 0) (y := 1) (rg_P hk1 0)
  replace hF := hF.to (rdb_e (z := z1) ez1)
  replace hF := hF.fc bz1
  refine x_getI C (N := 129) (i := k1) (Nat.lt_of_succ_lt hk1.1) hk1.2.1 vc_X5 wx_X5 0 (by decide) wf_X5_19 rfl dX5_copy_2 (a := z1) ez1 ?_
  refine x_putI C (N := 129) (i := k0) (Nat.lt_of_succ_lt hk0.1) hk0.2.1 vc_X5 wx_X5 0 (by decide) wf_X5_19 tyX5 tyX5_ok nmX5 rfl (tyX5_ok 0 (by decide)) rfl dX5_copy_5 (z_nar (by omega)) (z_fit (by omega)) ?_
  refine x_gV ?_
  intro V2 hV2
  have hI2 : XU G V2 := hI.up hV2 (rg_P hk0 0) (by omega) trivial
  have hB2 := hB.up hV2 (⟨Nat.le_refl _, by omega⟩)
  replace hF := hF.to (rdb_e (z := V2) hV2.symm)
  refine x_aload_n C.1 dX5_copy_8 0 rfl ?_
  refine x_aload_n C.1 dX5_copy_9 1 rfl ?_
  obtain ⟨z3, ez3, bz3⟩ := hI2.rd k1 1 (x := -2147483648) (y := 2147483647) (rg_P hk1 1)
  replace hF := hF.to (rdb_e (z := z3) ez3)
  refine x_getI C (N := 129) (i := k1) (Nat.lt_of_succ_lt hk1.1) hk1.2.1 vc_X5 wx_X5 1 (by decide) wf_X5_23 rfl dX5_copy_10 (a := z3) ez3 ?_
  refine x_putI C (N := 129) (i := k0) (Nat.lt_of_succ_lt hk0.1) hk0.2.1 vc_X5 wx_X5 1 (by decide) wf_X5_23 tyX5 tyX5_ok nmX5 rfl (tyX5_ok 1 (by decide)) rfl dX5_copy_13 rfl rfl ?_
  refine x_gV ?_
  intro V4 hV4
  have hI4 : XU G V4 := hI2.up hV4 (rg_P hk0 1) (by omega) trivial
  have hB4 := hB2.up hV4 (⟨Nat.le_refl _, by omega⟩)
  replace hF := hF.to (rdb_e (z := V4) hV4.symm)
  refine x_aload_n C.1 dX5_copy_16 0 rfl ?_
  refine x_aload_n C.1 dX5_copy_17 1 rfl ?_
  obtain ⟨z5, ez5, bz5⟩ := hI4.rd k1 2 (x := -2147483648) (y := 2147483647) (rg_P hk1 2)
  replace hF := hF.to (rdb_e (z := z5) ez5)
  refine x_getI C (N := 129) (i := k1) (Nat.lt_of_succ_lt hk1.1) hk1.2.1 vc_X5 wx_X5 2 (by decide) wf_X5_26 rfl dX5_copy_18 (a := z5) ez5 ?_
  refine x_putI C (N := 129) (i := k0) (Nat.lt_of_succ_lt hk0.1) hk0.2.1 vc_X5 wx_X5 2 (by decide) wf_X5_26 tyX5 tyX5_ok nmX5 rfl (tyX5_ok 2 (by decide)) rfl dX5_copy_21 rfl rfl ?_
  refine x_gV ?_
  intro V6 hV6
  have hI6 : XU G V6 := hI4.up hV6 (rg_P hk0 2) (by omega) trivial
  have hB6 := hB4.up hV6 (⟨Nat.le_refl _, by omega⟩)
  replace hF := hF.to (rdb_e (z := V6) hV6.symm)
  refine x_aload_n C.1 dX5_copy_24 0 rfl ?_
  refine x_aload_n C.1 dX5_copy_25 1 rfl ?_
  obtain ⟨z7, ez7, bz7⟩ := hI6.rd k1 3 (x := -2147483648) (y := 2147483647) (rg_P hk1 3)
  replace hF := hF.to (rdb_e (z := z7) ez7)
  refine x_getI C (N := 129) (i := k1) (Nat.lt_of_succ_lt hk1.1) hk1.2.1 vc_X5 wx_X5 3 (by decide) wf_X5_29 rfl dX5_copy_26 (a := z7) ez7 ?_
  refine x_putI C (N := 129) (i := k0) (Nat.lt_of_succ_lt hk0.1) hk0.2.1 vc_X5 wx_X5 3 (by decide) wf_X5_29 tyX5 tyX5_ok nmX5 rfl (tyX5_ok 3 (by decide)) rfl dX5_copy_29 rfl rfl ?_
  refine x_gV ?_
  intro V8 hV8
  have hI8 : XU G V8 := hI6.up hV8 (rg_P hk0 3) (by omega) trivial
  have hB8 := hB6.up hV8 (⟨Nat.le_refl _, by omega⟩)
  replace hF := hF.to (rdb_e (z := V8) hV8.symm)
  refine x_aload_n C.1 dX5_copy_32 0 rfl ?_
  refine x_aload_n C.1 dX5_copy_33 1 rfl ?_
  obtain ⟨z9, ez9, bz9⟩ := hI8.rd k1 4 (x := -2147483648) (y := 2147483647) (rg_P hk1 4)
  replace hF := hF.to (rdb_e (z := z9) ez9)
  refine x_getI C (N := 129) (i := k1) (Nat.lt_of_succ_lt hk1.1) hk1.2.1 vc_X5 wx_X5 4 (by decide) wf_X5_32 rfl dX5_copy_34 (a := z9) ez9 ?_
  refine x_putI C (N := 129) (i := k0) (Nat.lt_of_succ_lt hk0.1) hk0.2.1 vc_X5 wx_X5 4 (by decide) wf_X5_32 tyX5 tyX5_ok nmX5 rfl (tyX5_ok 4 (by decide)) rfl dX5_copy_37 rfl rfl ?_
  refine x_gV ?_
  intro V10 hV10
  have hI10 : XU G V10 := hI8.up hV10 (rg_P hk0 4) (by omega) trivial
  have hB10 := hB8.up hV10 (⟨Nat.le_refl _, by omega⟩)
  replace hF := hF.to (rdb_e (z := V10) hV10.symm)
  refine x_aload_n C.1 dX5_copy_40 0 rfl ?_
  refine x_aload_n C.1 dX5_copy_41 1 rfl ?_
  obtain ⟨z11, ez11, bz11⟩ := hI10.rd k1 5 (x := -2147483648) (y := 2147483647) (rg_P hk1 5)
  replace hF := hF.to (rdb_e (z := z11) ez11)
  refine x_getI C (N := 129) (i := k1) (Nat.lt_of_succ_lt hk1.1) hk1.2.1 vc_X5 wx_X5 5 (by decide) wf_X5_35 rfl dX5_copy_42 (a := z11) ez11 ?_
  refine x_putI C (N := 129) (i := k0) (Nat.lt_of_succ_lt hk0.1) hk0.2.1 vc_X5 wx_X5 5 (by decide) wf_X5_35 tyX5 tyX5_ok nmX5 rfl (tyX5_ok 5 (by decide)) rfl dX5_copy_45 rfl rfl ?_
  refine x_gV ?_
  intro V12 hV12
  have hI12 : XU G V12 := hI10.up hV12 (rg_P hk0 5) (by omega) trivial
  have hB12 := hB10.up hV12 (⟨Nat.le_refl _, by omega⟩)
  replace hF := hF.to (rdb_e (z := V12) hV12.symm)
  refine x_aload_n C.1 dX5_copy_48 0 rfl ?_
  refine x_aload_n C.1 dX5_copy_49 1 rfl ?_
  obtain ⟨z13, ez13, bz13⟩ := hI12.rd k1 6 (x := 0) (y := 1) (rg_P hk1 6)
  replace hF := hF.to (rdb_e (z := z13) ez13)
  replace hF := hF.fc bz13
  refine x_getI C (N := 129) (i := k1) (Nat.lt_of_succ_lt hk1.1) hk1.2.1 vc_X5 wx_X5 6 (by decide) wf_X5_38 rfl dX5_copy_50 (a := z13) ez13 ?_
  refine x_putI C (N := 129) (i := k0) (Nat.lt_of_succ_lt hk0.1) hk0.2.1 vc_X5 wx_X5 6 (by decide) wf_X5_38 tyX5 tyX5_ok nmX5 rfl (tyX5_ok 6 (by decide)) rfl dX5_copy_53 (z_nar (by omega)) (z_fit (by omega)) ?_
  refine x_gV ?_
  intro V14 hV14
  have hI14 : XU G V14 := hI12.up hV14 (rg_P hk0 6) (by omega) trivial
  have hB14 := hB12.up hV14 (⟨Nat.le_refl _, by omega⟩)
  replace hF := hF.to (rdb_e (z := V14) hV14.symm)
  refine x_aload_n C.1 dX5_copy_56 0 rfl ?_
  refine x_aload_n C.1 dX5_copy_57 1 rfl ?_
  obtain ⟨z15, ez15, bz15⟩ := hI14.rd k1 7 (x := -2147483648) (y := 2147483647) (rg_P hk1 7)
  replace hF := hF.to (rdb_e (z := z15) ez15)
  refine x_getI C (N := 129) (i := k1) (Nat.lt_of_succ_lt hk1.1) hk1.2.1 vc_X5 wx_X5 7 (by decide) wf_X5_9 rfl dX5_copy_58 (a := z15) ez15 ?_
  refine x_putI C (N := 129) (i := k0) (Nat.lt_of_succ_lt hk0.1) hk0.2.1 vc_X5 wx_X5 7 (by decide) wf_X5_9 tyX5 tyX5_ok nmX5 rfl (tyX5_ok 7 (by decide)) rfl dX5_copy_61 rfl rfl ?_
  refine x_gV ?_
  intro V16 hV16
  have hI16 : XU G V16 := hI14.up hV16 (rg_P hk0 7) (by omega) trivial
  have hB16 := hB14.up hV16 (⟨Nat.le_refl _, by omega⟩)
  replace hF := hF.to (rdb_e (z := V16) hV16.symm)
  refine x_aload_n C.1 dX5_copy_64 1 rfl ?_
  refine x_getA C (N := 129) (i := k1) (Nat.lt_of_succ_lt hk1.1) hk1.2.1 vc_X5 wx_X5 8 (by decide) wf_X5_15 (a := k1 + 1) rfl dX5_copy_65 ?_
  refine x_iconst C.1 (n := 0) dX5_copy_68 ?_
  refine x_aload_n C.1 dX5_copy_69 0 rfl ?_
  refine x_getA C (N := 129) (i := k0) (Nat.lt_of_succ_lt hk0.1) hk0.2.1 vc_X5 wx_X5 8 (by decide) wf_X5_15 (a := k0 + 1) rfl dX5_copy_70 ?_
  refine x_iconst C.1 (n := 0) dX5_copy_73 ?_
  refine x_bipush C.1 (n := 7) dX5_copy_74 ?_
  refine x_copyi C wl_X5_47 (N := 129) (i := k1 + 1) (j := k0 + 1) hk1.1 hk0.1 hk1.2.2 hk0.2.2 0 0 7 (by decide) (by decide) (by decide) (by decide) (Nat.le_of_ble_eq_true rfl) (Nat.le_of_ble_eq_true rfl) dX5_copy_76 ?_
  refine x_gV ?_
  intro V17 hV17
  have hI17 : XU G V17 := XU.cp hI16 hV17 (x := -2147483648) (y := 2147483647) (fun _ => (rg_K hk1 _)) (fun _ => (rg_K hk0 _)) (fun _ => (pr_K hk0 _))
  have hB17 := hB16.cp hV17 (fun k => (⟨by omega, by omega⟩))
  replace hF := hF.to (rdb_e (z := V17) hV17.symm)
  exact x_vret (S := (Nat → Nat → Int)) (post := (fun u : Nat → Nat → Int => XU G u ∧ FB (fun i k : Nat => (k0 ≤ i ∧ i ≤ k0 + 1)) V u ∧ (f_s_copyPu k0 k1 V J Rr) u)) (w1 := (fun u : Nat → Nat → Int => XW cy ad u J Rr)) C hr rfl dX5_copy_79 V17 rfl ⟨hI17, hB17, hF _ rfl⟩
set_option maxRecDepth 100000 in
def f_s_copyK (V : Nat → Nat → Int) (J : Nat → Nat → Int) (Rr : Nat → Nat → Nat) : (Nat → Nat → Int) → Prop :=
  lop2 (6) (fun rc161 (z160 : Int) (V161 : Nat → Nat → Int) => (if 4 ≤ z160 then lop2 (10) (fun rc288 (z287 : Int) (V288 : Nat → Nat → Int) => (if 8 ≤ z287 then rdb (V288 1 2) fun z306 => rdb (up2 V288 20 2 z306) fun V307 => rdb (V307 1 3) fun z308 => rdb (up2 V307 20 3 z308) fun V309 => rdb (V309 1 4) fun z310 => rdb (up2 V309 20 4 z310) fun V311 => rtn V311 else rdb (20 + 11 + 1 * z287.toNat) fun c312 => rdb (1 + 11 + 1 * z287.toNat) fun c313 => calUX (fun i k : Nat => (c312 ≤ i ∧ i ≤ c312)) V288 (f_s_copyE c312 c313 V288 J Rr) fun V314 => rc288 (z287 + 1) V314)) 0 V161 else rdb (20 + 3 + 2 * z160.toNat) fun c315 => rdb (1 + 3 + 2 * z160.toNat) fun c316 => calUX (fun i k : Nat => (c315 ≤ i ∧ i ≤ c315 + 1)) V161 (f_s_copyPu c315 c316 V161 J Rr) fun V317 => rc161 (z160 + 1) V317)) 0 V
set_option maxHeartbeats 8000000 in
set_option maxRecDepth 100000 in
theorem s_copyK (l : Launch) (D : va_G) (cy : Nat → ClassId) (ad : Nat → Nat) (G : Nat → Nat → Int) (V J : Nat → Nat → Int) (Rr : Nat → Nat → Nat) (hI : XU G V) (hJ : VJ J) (hR : XR Rr)  : xMv l D (xTY cy) yX3_copy cX3_copy 3 none 2 69 0 0 [.ref (ad 20), .ref (ad 1)] (XW cy ad V J Rr) (fun u : Nat → Nat → Int => XW cy ad u J Rr) (fun u : Nat → Nat → Int => XU G u ∧ FB (fun i k : Nat => (20 ≤ i ∧ i ≤ 38)) V u ∧ (f_s_copyK V J Rr) u) := by
  refine xMv.mk (lv0 := [(0, .ref (ad 20)), (1, .ref (ad 1))]) (by decide) rfl (Nat.le_of_ble_eq_true rfl) (fun p e s m below meth c A C hr hnm hAe => ?_)
  have C : xC2 p s m _ meth c D A s.heap 3 cX3_copy RX3 (xTY cy) := C
  have hB : FB (fun i k : Nat => (20 ≤ i ∧ i ≤ 38)) V V := FB.rf _ _
  have hF := Imp.of_eq (f_s_copyK.eq_def V J Rr)
  refine x_iconst C.1 (n := 0) dX3_copy_0 ?_
  refine x_istore_n C.1 (lv' := [(2, vI 0), (0, .ref (ad 20)), (1, .ref (ad 1))]) dX3_copy_1 (by decide) rfl ?_
  obtain ⟨bd161, hbd161, hF⟩ := lop2_ex hF
  refine x_loop (I := fun x : Int × (Nat → Nat → Int) => match x with | (z160, V161) => (0 ≤ z160 ∧ z160 ≤ 4) ∧ XU G V161 ∧ FB (fun i k : Nat => (20 ≤ i ∧ i ≤ 38)) V V161 ∧ (∃ nf : Nat, (5 - z160).toNat < nf ∧ Imp (lop2 nf bd161 z160 V161) (f_s_copyK V J Rr))) (μ := fun x : Int × (Nat → Nat → Int) => match x with | (z160, V161) => (5 - z160).toNat) (wsf := fun x : Int × (Nat → Nat → Int) => match x with | (z160, V161) => XW cy ad V161 J Rr) (lvf := fun x : Int × (Nat → Nat → Int) => match x with | (z160, V161) => [(2, vI z160), (0, .ref (ad 20)), (1, .ref (ad 1))]) (fun x hI161x ih161 => ?_) (0, V) ⟨⟨by decide, by decide⟩, hI, hB, ⟨_, (by omega), hF⟩⟩ rfl rfl
  obtain ⟨z160, V161⟩ := x
  obtain ⟨bz160, hI161, hB161, nf161, hn161, hF⟩ := hI161x
  try dsimp only
  obtain ⟨nf161, rfl⟩ : ∃ mm, nf161 = mm + 1 := ⟨nf161 - 1, (Nat.succ_pred_eq_of_pos (Nat.lt_of_le_of_lt (Nat.zero_le _) hn161)).symm⟩
  replace hF := hF.to (lop2_s hbd161)
  refine x_iload_n C.1 dX3_copy_2 0 rfl ?_
  refine x_iconst C.1 (n := 4) dX3_copy_3 ?_
  refine x_icmp_ge C.1 (tgt := 28) dX3_copy_4 (by decide) (by omega) (by decide) (fun hc243 => ?_) (fun hc243 => ?_)
  · replace hF := hF.to (if_pos hc243)
    refine x_iconst C.1 (n := 0) dX3_copy_28 ?_
    refine x_istore_n C.1 (lv' := [(2, vI 0), (0, .ref (ad 20)), (1, .ref (ad 1))]) dX3_copy_29 (by decide) rfl ?_
    obtain ⟨bd288, hbd288, hF⟩ := lop2_ex hF
    refine x_loop (I := fun x : Int × (Nat → Nat → Int) => match x with | (z287, V288) => (0 ≤ z287 ∧ z287 ≤ 8) ∧ XU G V288 ∧ FB (fun i k : Nat => (20 ≤ i ∧ i ≤ 38)) V V288 ∧ (∃ nf : Nat, (9 - z287).toNat < nf ∧ Imp (lop2 nf bd288 z287 V288) (f_s_copyK V J Rr))) (μ := fun x : Int × (Nat → Nat → Int) => match x with | (z287, V288) => (9 - z287).toNat) (wsf := fun x : Int × (Nat → Nat → Int) => match x with | (z287, V288) => XW cy ad V288 J Rr) (lvf := fun x : Int × (Nat → Nat → Int) => match x with | (z287, V288) => [(2, vI z287), (0, .ref (ad 20)), (1, .ref (ad 1))]) (fun x hI288x ih288 => ?_) (0, V161) ⟨⟨by decide, by decide⟩, hI161, hB161, ⟨_, (by omega), hF⟩⟩ rfl rfl
    obtain ⟨z287, V288⟩ := x
    obtain ⟨bz287, hI288, hB288, nf288, hn288, hF⟩ := hI288x
    try dsimp only
    obtain ⟨nf288, rfl⟩ : ∃ mm, nf288 = mm + 1 := ⟨nf288 - 1, (Nat.succ_pred_eq_of_pos (Nat.lt_of_le_of_lt (Nat.zero_le _) hn288)).symm⟩
    replace hF := hF.to (lop2_s hbd288)
    refine x_iload_n C.1 dX3_copy_30 0 rfl ?_
    refine x_bipush C.1 (n := 8) dX3_copy_31 ?_
    refine x_icmp_ge C.1 (tgt := 57) dX3_copy_33 (by decide) (by omega) (by decide) (fun hc305 => ?_) (fun hc305 => ?_)
    · replace hF := hF.to (if_pos hc305)
      refine x_aload_n C.1 dX3_copy_57 1 rfl ?_
      refine x_aload_n C.1 dX3_copy_58 2 rfl ?_
      obtain ⟨z306, ez306, bz306⟩ := hI288.rd 1 2 (x := -2147483648) (y := 2147483647) (rg_L (Or.inl rfl) _)
      replace hF := hF.to (rdb_e (z := z306) ez306)
      refine x_getI C (N := 129) (i := 1) (by omega) (xd_L (Or.inl rfl)) vc_X3 wx_X3 2 (by decide) wf_X3_36 rfl dX3_copy_59 (a := z306) ez306 ?_
      refine x_putI C (N := 129) (i := 20) (by omega) (xd_L (Or.inr (Or.inl rfl))) vc_X3 wx_X3 2 (by decide) wf_X3_36 tyX3 tyX3_ok nmX3 rfl (tyX3_ok 2 (by decide)) rfl dX3_copy_62 rfl rfl ?_
      refine x_gV ?_
      intro V307 hV307
      have hI307 : XU G V307 := hI288.up hV307 (rg_L (Or.inr (Or.inl rfl)) _) (by omega) trivial
      have hB307 := hB288.up hV307 (⟨by decide, by decide⟩)
      replace hF := hF.to (rdb_e (z := V307) hV307.symm)
      refine x_aload_n C.1 dX3_copy_65 1 rfl ?_
      refine x_aload_n C.1 dX3_copy_66 2 rfl ?_
      obtain ⟨z308, ez308, bz308⟩ := hI307.rd 1 3 (x := -2147483648) (y := 2147483647) (rg_L (Or.inl rfl) _)
      replace hF := hF.to (rdb_e (z := z308) ez308)
      refine x_getI C (N := 129) (i := 1) (by omega) (xd_L (Or.inl rfl)) vc_X3 wx_X3 3 (by decide) wf_X3_39 rfl dX3_copy_67 (a := z308) ez308 ?_
      refine x_putI C (N := 129) (i := 20) (by omega) (xd_L (Or.inr (Or.inl rfl))) vc_X3 wx_X3 3 (by decide) wf_X3_39 tyX3 tyX3_ok nmX3 rfl (tyX3_ok 3 (by decide)) rfl dX3_copy_70 rfl rfl ?_
      refine x_gV ?_
      intro V309 hV309
      have hI309 : XU G V309 := hI307.up hV309 (rg_L (Or.inr (Or.inl rfl)) _) (by omega) trivial
      have hB309 := hB307.up hV309 (⟨by decide, by decide⟩)
      replace hF := hF.to (rdb_e (z := V309) hV309.symm)
      refine x_aload_n C.1 dX3_copy_73 1 rfl ?_
      refine x_aload_n C.1 dX3_copy_74 2 rfl ?_
      obtain ⟨z310, ez310, bz310⟩ := hI309.rd 1 4 (x := -2147483648) (y := 2147483647) (rg_L (Or.inl rfl) _)
      replace hF := hF.to (rdb_e (z := z310) ez310)
      refine x_getI C (N := 129) (i := 1) (by omega) (xd_L (Or.inl rfl)) vc_X3 wx_X3 4 (by decide) wf_X3_23 rfl dX3_copy_75 (a := z310) ez310 ?_
      refine x_putI C (N := 129) (i := 20) (by omega) (xd_L (Or.inr (Or.inl rfl))) vc_X3 wx_X3 4 (by decide) wf_X3_23 tyX3 tyX3_ok nmX3 rfl (tyX3_ok 4 (by decide)) rfl dX3_copy_78 rfl rfl ?_
      refine x_gV ?_
      intro V311 hV311
      have hI311 : XU G V311 := hI309.up hV311 (rg_L (Or.inr (Or.inl rfl)) _) (by omega) trivial
      have hB311 := hB309.up hV311 (⟨by decide, by decide⟩)
      replace hF := hF.to (rdb_e (z := V311) hV311.symm)
      exact x_vret (S := (Nat → Nat → Int)) (post := (fun u : Nat → Nat → Int => XU G u ∧ FB (fun i k : Nat => (20 ≤ i ∧ i ≤ 38)) V u ∧ (f_s_copyK V J Rr) u)) (w1 := (fun u : Nat → Nat → Int => XW cy ad u J Rr)) C hr rfl dX3_copy_81 V311 rfl ⟨hI311, hB311, hF _ rfl⟩
    · replace hF := hF.to (if_neg hc305)
      refine x_aload_n C.1 dX3_copy_36 1 rfl ?_
      refine x_getA C (N := 129) (i := 20) (by omega) (xd_L (Or.inr (Or.inl rfl))) vc_X3 wx_X3 1 (by decide) wf_X3_19 (a := 22) rfl dX3_copy_37 ?_
      refine x_iload_n C.1 dX3_copy_40 0 rfl ?_
      obtain ⟨c312, ec312, hc312⟩ : ∃ cx : Nat, 20 + 11 + 1 * z287.toNat = cx ∧ isPe cx := ⟨_, rfl, isPe_L (Or.inr (Or.inl rfl)) (by omega)⟩
      replace hF := hF.to (rdb_e (z := c312) ec312)
      refine x_aldS C (N := 129) (i := 22) (q := z287) (t := 5) rfl (by omega) (xd_Lb (Or.inr (Or.inl rfl))) (by omega) (by decide) dX3_copy_41 (a := c312) ec312 ?_
      refine x_aload_n C.1 dX3_copy_42 2 rfl ?_
      refine x_getA C (N := 129) (i := 1) (by omega) (xd_L (Or.inl rfl)) vc_X3 wx_X3 1 (by decide) wf_X3_19 (a := 3) rfl dX3_copy_43 ?_
      refine x_iload_n C.1 dX3_copy_46 0 rfl ?_
      obtain ⟨c313, ec313, hc313⟩ : ∃ cx : Nat, 1 + 11 + 1 * z287.toNat = cx ∧ isPe cx := ⟨_, rfl, isPe_L (Or.inl rfl) (by omega)⟩
      replace hF := hF.to (rdb_e (z := c313) ec313)
      refine x_aldS C (N := 129) (i := 3) (q := z287) (t := 5) rfl (by omega) (xd_Lb (Or.inl rfl)) (by omega) (by decide) dX3_copy_47 (a := c313) ec313 ?_
      refine x_callVv C (As := [.ref (ad c313)]) (rest := []) c312 (xw_at (N := 129) (i := c312) hc312.1 hc312.2) vc_X4 (s_copyE l D cy ad V288 V288 J Rr hI288 hJ hR c312 hc312 c313 hc313) (l1 := []) (l2 := []) (List.append_nil _).symm (w2 := fun u : Nat → Nat → Int => XW cy ad u J Rr) (fun _ => List.append_nil _) rfl wm_yX4_copy wn_X4 wl_X3_33 wi_yX4_copy we_yX4_copy hd_yX4_copy rfl ⟨Nat.le_of_ble_eq_true rfl, Nat.le_of_ble_eq_true rfl⟩ (Nat.le_of_ble_eq_true rfl) ⟨Nat.le_of_ble_eq_true rfl, Nat.le_of_ble_eq_true rfl⟩ dX3_copy_48 (fun V314 h314 => ?_)
      obtain ⟨hI314, hBc314, hFc314⟩ := h314
      replace hF := calUX_i hF hFc314 hBc314
      have hB314 := hB288.tr hBc314 (fun i k h => (⟨by omega, by omega⟩))
      have hI314c : XU G V314 := XI.toU hI314
      refine x_iinc C.1 (v := z287 + 1) (lv' := [(2, vI (z287 + 1)), (0, .ref (ad 20)), (1, .ref (ad 1))]) (by omega) dX3_copy_51 0 rfl (by decide) rfl ?_
      refine x_goto C.1 (tgt := 30) dX3_copy_54 (by decide) ?_
      have hmu288 : (9 - (z287 + 1)).toNat < (9 - z287).toNat := (by omega)
      exact ih288 (z287 + 1, V314) ⟨⟨by omega, by omega⟩, hI314c, hB314, ⟨nf288, Nat.lt_of_lt_of_le hmu288 (Nat.le_of_lt_succ hn288), hF⟩⟩ hmu288
  · replace hF := hF.to (if_neg hc243)
    refine x_aload_n C.1 dX3_copy_7 1 rfl ?_
    refine x_getA C (N := 129) (i := 20) (by omega) (xd_L (Or.inr (Or.inl rfl))) vc_X3 wx_X3 0 (by decide) wf_X3_11 (a := 21) rfl dX3_copy_8 ?_
    refine x_iload_n C.1 dX3_copy_11 0 rfl ?_
    obtain ⟨c315, ec315, hc315⟩ : ∃ cx : Nat, 20 + 3 + 2 * z160.toNat = cx ∧ isPl cx := ⟨_, rfl, isPl_L (Or.inr (Or.inl rfl)) (by omega)⟩
    replace hF := hF.to (rdb_e (z := c315) ec315)
    refine x_aldS C (N := 129) (i := 21) (q := z160) (t := 4) rfl (by omega) (xd_La (Or.inr (Or.inl rfl))) (by omega) (by decide) dX3_copy_12 (a := c315) ec315 ?_
    refine x_aload_n C.1 dX3_copy_13 2 rfl ?_
    refine x_getA C (N := 129) (i := 1) (by omega) (xd_L (Or.inl rfl)) vc_X3 wx_X3 0 (by decide) wf_X3_11 (a := 2) rfl dX3_copy_14 ?_
    refine x_iload_n C.1 dX3_copy_17 0 rfl ?_
    obtain ⟨c316, ec316, hc316⟩ : ∃ cx : Nat, 1 + 3 + 2 * z160.toNat = cx ∧ isPl cx := ⟨_, rfl, isPl_L (Or.inl rfl) (by omega)⟩
    replace hF := hF.to (rdb_e (z := c316) ec316)
    refine x_aldS C (N := 129) (i := 2) (q := z160) (t := 4) rfl (by omega) (xd_La (Or.inl rfl)) (by omega) (by decide) dX3_copy_18 (a := c316) ec316 ?_
    refine x_callVv C (As := [.ref (ad c316)]) (rest := []) c315 (xw_at (N := 129) (i := c315) (Nat.lt_of_succ_lt hc315.1) hc315.2.1) vc_X5 (s_copyPu l D cy ad G V161 J Rr hI161 hJ hR c315 hc315 c316 hc316) (l1 := []) (l2 := []) (List.append_nil _).symm (w2 := fun u : Nat → Nat → Int => XW cy ad u J Rr) (fun _ => List.append_nil _) rfl wm_yX5_copy wn_X5 wl_X3_29 wi_yX5_copy we_yX5_copy hd_yX5_copy rfl ⟨Nat.le_of_ble_eq_true rfl, Nat.le_of_ble_eq_true rfl⟩ (Nat.le_of_ble_eq_true rfl) ⟨Nat.le_of_ble_eq_true rfl, Nat.le_of_ble_eq_true rfl⟩ dX3_copy_19 (fun V317 h317 => ?_)
    obtain ⟨hI317, hBc317, hFc317⟩ := h317
    replace hF := calUX_i hF hFc317 hBc317
    have hB317 := hB161.tr hBc317 (fun i k h => (⟨by omega, by omega⟩))
    refine x_iinc C.1 (v := z160 + 1) (lv' := [(2, vI (z160 + 1)), (0, .ref (ad 20)), (1, .ref (ad 1))]) (by omega) dX3_copy_22 0 rfl (by decide) rfl ?_
    refine x_goto C.1 (tgt := 2) dX3_copy_25 (by decide) ?_
    have hmu161 : (5 - (z160 + 1)).toNat < (5 - z160).toNat := (by omega)
    exact ih161 (z160 + 1, V317) ⟨⟨by omega, by omega⟩, hI317, hB317, ⟨nf161, Nat.lt_of_lt_of_le hmu161 (Nat.le_of_lt_succ hn161), hF⟩⟩ hmu161
set_option maxRecDepth 100000 in
def f_s_copyB (V : Nat → Nat → Int) (J : Nat → Nat → Int) (Rr : Nat → Nat → Nat) : (Nat → Nat → Int) → Prop :=
  lop2 (6) (fun rc161 (z160 : Int) (V161 : Nat → Nat → Int) => (if 4 ≤ z160 then lop2 (10) (fun rc288 (z287 : Int) (V288 : Nat → Nat → Int) => (if 8 ≤ z287 then rdb (V288 20 2) fun z306 => rdb (up2 V288 1 2 z306) fun V307 => rdb (V307 20 3) fun z308 => rdb (up2 V307 1 3 z308) fun V309 => rdb (V309 20 4) fun z310 => rdb (up2 V309 1 4 z310) fun V311 => rtn V311 else rdb (1 + 11 + 1 * z287.toNat) fun c312 => rdb (20 + 11 + 1 * z287.toNat) fun c313 => calUX (fun i k : Nat => (c312 ≤ i ∧ i ≤ c312)) V288 (f_s_copyE c312 c313 V288 J Rr) fun V314 => rc288 (z287 + 1) V314)) 0 V161 else rdb (1 + 3 + 2 * z160.toNat) fun c315 => rdb (20 + 3 + 2 * z160.toNat) fun c316 => calUX (fun i k : Nat => (c315 ≤ i ∧ i ≤ c315 + 1)) V161 (f_s_copyPu c315 c316 V161 J Rr) fun V317 => rc161 (z160 + 1) V317)) 0 V
set_option maxHeartbeats 8000000 in
set_option maxRecDepth 100000 in
theorem s_copyB (l : Launch) (D : va_G) (cy : Nat → ClassId) (ad : Nat → Nat) (G : Nat → Nat → Int) (V J : Nat → Nat → Int) (Rr : Nat → Nat → Nat) (hI : XU G V) (hJ : VJ J) (hR : XR Rr)  : xMv l D (xTY cy) yX3_copy cX3_copy 3 none 2 69 0 0 [.ref (ad 1), .ref (ad 20)] (XW cy ad V J Rr) (fun u : Nat → Nat → Int => XW cy ad u J Rr) (fun u : Nat → Nat → Int => XU G u ∧ FB (fun i k : Nat => (1 ≤ i ∧ i ≤ 19)) V u ∧ (f_s_copyB V J Rr) u) := by
  refine xMv.mk (lv0 := [(0, .ref (ad 1)), (1, .ref (ad 20))]) (by decide) rfl (Nat.le_of_ble_eq_true rfl) (fun p e s m below meth c A C hr hnm hAe => ?_)
  have C : xC2 p s m _ meth c D A s.heap 3 cX3_copy RX3 (xTY cy) := C
  have hB : FB (fun i k : Nat => (1 ≤ i ∧ i ≤ 19)) V V := FB.rf _ _
  have hF := Imp.of_eq (f_s_copyB.eq_def V J Rr)
  refine x_iconst C.1 (n := 0) dX3_copy_0 ?_
  refine x_istore_n C.1 (lv' := [(2, vI 0), (0, .ref (ad 1)), (1, .ref (ad 20))]) dX3_copy_1 (by decide) rfl ?_
  obtain ⟨bd161, hbd161, hF⟩ := lop2_ex hF
  refine x_loop (I := fun x : Int × (Nat → Nat → Int) => match x with | (z160, V161) => (0 ≤ z160 ∧ z160 ≤ 4) ∧ XU G V161 ∧ FB (fun i k : Nat => (1 ≤ i ∧ i ≤ 19)) V V161 ∧ (∃ nf : Nat, (5 - z160).toNat < nf ∧ Imp (lop2 nf bd161 z160 V161) (f_s_copyB V J Rr))) (μ := fun x : Int × (Nat → Nat → Int) => match x with | (z160, V161) => (5 - z160).toNat) (wsf := fun x : Int × (Nat → Nat → Int) => match x with | (z160, V161) => XW cy ad V161 J Rr) (lvf := fun x : Int × (Nat → Nat → Int) => match x with | (z160, V161) => [(2, vI z160), (0, .ref (ad 1)), (1, .ref (ad 20))]) (fun x hI161x ih161 => ?_) (0, V) ⟨⟨by decide, by decide⟩, hI, hB, ⟨_, (by omega), hF⟩⟩ rfl rfl
  obtain ⟨z160, V161⟩ := x
  obtain ⟨bz160, hI161, hB161, nf161, hn161, hF⟩ := hI161x
  try dsimp only
  obtain ⟨nf161, rfl⟩ : ∃ mm, nf161 = mm + 1 := ⟨nf161 - 1, (Nat.succ_pred_eq_of_pos (Nat.lt_of_le_of_lt (Nat.zero_le _) hn161)).symm⟩
  replace hF := hF.to (lop2_s hbd161)
  refine x_iload_n C.1 dX3_copy_2 0 rfl ?_
  refine x_iconst C.1 (n := 4) dX3_copy_3 ?_
  refine x_icmp_ge C.1 (tgt := 28) dX3_copy_4 (by decide) (by omega) (by decide) (fun hc243 => ?_) (fun hc243 => ?_)
  · replace hF := hF.to (if_pos hc243)
    refine x_iconst C.1 (n := 0) dX3_copy_28 ?_
    refine x_istore_n C.1 (lv' := [(2, vI 0), (0, .ref (ad 1)), (1, .ref (ad 20))]) dX3_copy_29 (by decide) rfl ?_
    obtain ⟨bd288, hbd288, hF⟩ := lop2_ex hF
    refine x_loop (I := fun x : Int × (Nat → Nat → Int) => match x with | (z287, V288) => (0 ≤ z287 ∧ z287 ≤ 8) ∧ XU G V288 ∧ FB (fun i k : Nat => (1 ≤ i ∧ i ≤ 19)) V V288 ∧ (∃ nf : Nat, (9 - z287).toNat < nf ∧ Imp (lop2 nf bd288 z287 V288) (f_s_copyB V J Rr))) (μ := fun x : Int × (Nat → Nat → Int) => match x with | (z287, V288) => (9 - z287).toNat) (wsf := fun x : Int × (Nat → Nat → Int) => match x with | (z287, V288) => XW cy ad V288 J Rr) (lvf := fun x : Int × (Nat → Nat → Int) => match x with | (z287, V288) => [(2, vI z287), (0, .ref (ad 1)), (1, .ref (ad 20))]) (fun x hI288x ih288 => ?_) (0, V161) ⟨⟨by decide, by decide⟩, hI161, hB161, ⟨_, (by omega), hF⟩⟩ rfl rfl
    obtain ⟨z287, V288⟩ := x
    obtain ⟨bz287, hI288, hB288, nf288, hn288, hF⟩ := hI288x
    try dsimp only
    obtain ⟨nf288, rfl⟩ : ∃ mm, nf288 = mm + 1 := ⟨nf288 - 1, (Nat.succ_pred_eq_of_pos (Nat.lt_of_le_of_lt (Nat.zero_le _) hn288)).symm⟩
    replace hF := hF.to (lop2_s hbd288)
    refine x_iload_n C.1 dX3_copy_30 0 rfl ?_
    refine x_bipush C.1 (n := 8) dX3_copy_31 ?_
    refine x_icmp_ge C.1 (tgt := 57) dX3_copy_33 (by decide) (by omega) (by decide) (fun hc305 => ?_) (fun hc305 => ?_)
    · replace hF := hF.to (if_pos hc305)
      refine x_aload_n C.1 dX3_copy_57 1 rfl ?_
      refine x_aload_n C.1 dX3_copy_58 2 rfl ?_
      obtain ⟨z306, ez306, bz306⟩ := hI288.rd 20 2 (x := -2147483648) (y := 2147483647) (rg_L (Or.inr (Or.inl rfl)) _)
      replace hF := hF.to (rdb_e (z := z306) ez306)
      refine x_getI C (N := 129) (i := 20) (by omega) (xd_L (Or.inr (Or.inl rfl))) vc_X3 wx_X3 2 (by decide) wf_X3_36 rfl dX3_copy_59 (a := z306) ez306 ?_
      refine x_putI C (N := 129) (i := 1) (by omega) (xd_L (Or.inl rfl)) vc_X3 wx_X3 2 (by decide) wf_X3_36 tyX3 tyX3_ok nmX3 rfl (tyX3_ok 2 (by decide)) rfl dX3_copy_62 rfl rfl ?_
      refine x_gV ?_
      intro V307 hV307
      have hI307 : XU G V307 := hI288.up hV307 (rg_L (Or.inl rfl) _) (by omega) trivial
      have hB307 := hB288.up hV307 (⟨by decide, by decide⟩)
      replace hF := hF.to (rdb_e (z := V307) hV307.symm)
      refine x_aload_n C.1 dX3_copy_65 1 rfl ?_
      refine x_aload_n C.1 dX3_copy_66 2 rfl ?_
      obtain ⟨z308, ez308, bz308⟩ := hI307.rd 20 3 (x := -2147483648) (y := 2147483647) (rg_L (Or.inr (Or.inl rfl)) _)
      replace hF := hF.to (rdb_e (z := z308) ez308)
      refine x_getI C (N := 129) (i := 20) (by omega) (xd_L (Or.inr (Or.inl rfl))) vc_X3 wx_X3 3 (by decide) wf_X3_39 rfl dX3_copy_67 (a := z308) ez308 ?_
      refine x_putI C (N := 129) (i := 1) (by omega) (xd_L (Or.inl rfl)) vc_X3 wx_X3 3 (by decide) wf_X3_39 tyX3 tyX3_ok nmX3 rfl (tyX3_ok 3 (by decide)) rfl dX3_copy_70 rfl rfl ?_
      refine x_gV ?_
      intro V309 hV309
      have hI309 : XU G V309 := hI307.up hV309 (rg_L (Or.inl rfl) _) (by omega) trivial
      have hB309 := hB307.up hV309 (⟨by decide, by decide⟩)
      replace hF := hF.to (rdb_e (z := V309) hV309.symm)
      refine x_aload_n C.1 dX3_copy_73 1 rfl ?_
      refine x_aload_n C.1 dX3_copy_74 2 rfl ?_
      obtain ⟨z310, ez310, bz310⟩ := hI309.rd 20 4 (x := -2147483648) (y := 2147483647) (rg_L (Or.inr (Or.inl rfl)) _)
      replace hF := hF.to (rdb_e (z := z310) ez310)
      refine x_getI C (N := 129) (i := 20) (by omega) (xd_L (Or.inr (Or.inl rfl))) vc_X3 wx_X3 4 (by decide) wf_X3_23 rfl dX3_copy_75 (a := z310) ez310 ?_
      refine x_putI C (N := 129) (i := 1) (by omega) (xd_L (Or.inl rfl)) vc_X3 wx_X3 4 (by decide) wf_X3_23 tyX3 tyX3_ok nmX3 rfl (tyX3_ok 4 (by decide)) rfl dX3_copy_78 rfl rfl ?_
      refine x_gV ?_
      intro V311 hV311
      have hI311 : XU G V311 := hI309.up hV311 (rg_L (Or.inl rfl) _) (by omega) trivial
      have hB311 := hB309.up hV311 (⟨by decide, by decide⟩)
      replace hF := hF.to (rdb_e (z := V311) hV311.symm)
      exact x_vret (S := (Nat → Nat → Int)) (post := (fun u : Nat → Nat → Int => XU G u ∧ FB (fun i k : Nat => (1 ≤ i ∧ i ≤ 19)) V u ∧ (f_s_copyB V J Rr) u)) (w1 := (fun u : Nat → Nat → Int => XW cy ad u J Rr)) C hr rfl dX3_copy_81 V311 rfl ⟨hI311, hB311, hF _ rfl⟩
    · replace hF := hF.to (if_neg hc305)
      refine x_aload_n C.1 dX3_copy_36 1 rfl ?_
      refine x_getA C (N := 129) (i := 1) (by omega) (xd_L (Or.inl rfl)) vc_X3 wx_X3 1 (by decide) wf_X3_19 (a := 3) rfl dX3_copy_37 ?_
      refine x_iload_n C.1 dX3_copy_40 0 rfl ?_
      obtain ⟨c312, ec312, hc312⟩ : ∃ cx : Nat, 1 + 11 + 1 * z287.toNat = cx ∧ isPe cx := ⟨_, rfl, isPe_L (Or.inl rfl) (by omega)⟩
      replace hF := hF.to (rdb_e (z := c312) ec312)
      refine x_aldS C (N := 129) (i := 3) (q := z287) (t := 5) rfl (by omega) (xd_Lb (Or.inl rfl)) (by omega) (by decide) dX3_copy_41 (a := c312) ec312 ?_
      refine x_aload_n C.1 dX3_copy_42 2 rfl ?_
      refine x_getA C (N := 129) (i := 20) (by omega) (xd_L (Or.inr (Or.inl rfl))) vc_X3 wx_X3 1 (by decide) wf_X3_19 (a := 22) rfl dX3_copy_43 ?_
      refine x_iload_n C.1 dX3_copy_46 0 rfl ?_
      obtain ⟨c313, ec313, hc313⟩ : ∃ cx : Nat, 20 + 11 + 1 * z287.toNat = cx ∧ isPe cx := ⟨_, rfl, isPe_L (Or.inr (Or.inl rfl)) (by omega)⟩
      replace hF := hF.to (rdb_e (z := c313) ec313)
      refine x_aldS C (N := 129) (i := 22) (q := z287) (t := 5) rfl (by omega) (xd_Lb (Or.inr (Or.inl rfl))) (by omega) (by decide) dX3_copy_47 (a := c313) ec313 ?_
      refine x_callVv C (As := [.ref (ad c313)]) (rest := []) c312 (xw_at (N := 129) (i := c312) hc312.1 hc312.2) vc_X4 (s_copyE l D cy ad V288 V288 J Rr hI288 hJ hR c312 hc312 c313 hc313) (l1 := []) (l2 := []) (List.append_nil _).symm (w2 := fun u : Nat → Nat → Int => XW cy ad u J Rr) (fun _ => List.append_nil _) rfl wm_yX4_copy wn_X4 wl_X3_33 wi_yX4_copy we_yX4_copy hd_yX4_copy rfl ⟨Nat.le_of_ble_eq_true rfl, Nat.le_of_ble_eq_true rfl⟩ (Nat.le_of_ble_eq_true rfl) ⟨Nat.le_of_ble_eq_true rfl, Nat.le_of_ble_eq_true rfl⟩ dX3_copy_48 (fun V314 h314 => ?_)
      obtain ⟨hI314, hBc314, hFc314⟩ := h314
      replace hF := calUX_i hF hFc314 hBc314
      have hB314 := hB288.tr hBc314 (fun i k h => (⟨by omega, by omega⟩))
      have hI314c : XU G V314 := XI.toU hI314
      refine x_iinc C.1 (v := z287 + 1) (lv' := [(2, vI (z287 + 1)), (0, .ref (ad 1)), (1, .ref (ad 20))]) (by omega) dX3_copy_51 0 rfl (by decide) rfl ?_
      refine x_goto C.1 (tgt := 30) dX3_copy_54 (by decide) ?_
      have hmu288 : (9 - (z287 + 1)).toNat < (9 - z287).toNat := (by omega)
      exact ih288 (z287 + 1, V314) ⟨⟨by omega, by omega⟩, hI314c, hB314, ⟨nf288, Nat.lt_of_lt_of_le hmu288 (Nat.le_of_lt_succ hn288), hF⟩⟩ hmu288
  · replace hF := hF.to (if_neg hc243)
    refine x_aload_n C.1 dX3_copy_7 1 rfl ?_
    refine x_getA C (N := 129) (i := 1) (by omega) (xd_L (Or.inl rfl)) vc_X3 wx_X3 0 (by decide) wf_X3_11 (a := 2) rfl dX3_copy_8 ?_
    refine x_iload_n C.1 dX3_copy_11 0 rfl ?_
    obtain ⟨c315, ec315, hc315⟩ : ∃ cx : Nat, 1 + 3 + 2 * z160.toNat = cx ∧ isPl cx := ⟨_, rfl, isPl_L (Or.inl rfl) (by omega)⟩
    replace hF := hF.to (rdb_e (z := c315) ec315)
    refine x_aldS C (N := 129) (i := 2) (q := z160) (t := 4) rfl (by omega) (xd_La (Or.inl rfl)) (by omega) (by decide) dX3_copy_12 (a := c315) ec315 ?_
    refine x_aload_n C.1 dX3_copy_13 2 rfl ?_
    refine x_getA C (N := 129) (i := 20) (by omega) (xd_L (Or.inr (Or.inl rfl))) vc_X3 wx_X3 0 (by decide) wf_X3_11 (a := 21) rfl dX3_copy_14 ?_
    refine x_iload_n C.1 dX3_copy_17 0 rfl ?_
    obtain ⟨c316, ec316, hc316⟩ : ∃ cx : Nat, 20 + 3 + 2 * z160.toNat = cx ∧ isPl cx := ⟨_, rfl, isPl_L (Or.inr (Or.inl rfl)) (by omega)⟩
    replace hF := hF.to (rdb_e (z := c316) ec316)
    refine x_aldS C (N := 129) (i := 21) (q := z160) (t := 4) rfl (by omega) (xd_La (Or.inr (Or.inl rfl))) (by omega) (by decide) dX3_copy_18 (a := c316) ec316 ?_
    refine x_callVv C (As := [.ref (ad c316)]) (rest := []) c315 (xw_at (N := 129) (i := c315) (Nat.lt_of_succ_lt hc315.1) hc315.2.1) vc_X5 (s_copyPu l D cy ad G V161 J Rr hI161 hJ hR c315 hc315 c316 hc316) (l1 := []) (l2 := []) (List.append_nil _).symm (w2 := fun u : Nat → Nat → Int => XW cy ad u J Rr) (fun _ => List.append_nil _) rfl wm_yX5_copy wn_X5 wl_X3_29 wi_yX5_copy we_yX5_copy hd_yX5_copy rfl ⟨Nat.le_of_ble_eq_true rfl, Nat.le_of_ble_eq_true rfl⟩ (Nat.le_of_ble_eq_true rfl) ⟨Nat.le_of_ble_eq_true rfl, Nat.le_of_ble_eq_true rfl⟩ dX3_copy_19 (fun V317 h317 => ?_)
    obtain ⟨hI317, hBc317, hFc317⟩ := h317
    replace hF := calUX_i hF hFc317 hBc317
    have hB317 := hB161.tr hBc317 (fun i k h => (⟨by omega, by omega⟩))
    refine x_iinc C.1 (v := z160 + 1) (lv' := [(2, vI (z160 + 1)), (0, .ref (ad 1)), (1, .ref (ad 20))]) (by omega) dX3_copy_22 0 rfl (by decide) rfl ?_
    refine x_goto C.1 (tgt := 2) dX3_copy_25 (by decide) ?_
    have hmu161 : (5 - (z160 + 1)).toNat < (5 - z160).toNat := (by omega)
    exact ih161 (z160 + 1, V317) ⟨⟨by omega, by omega⟩, hI317, hB317, ⟨nf161, Nat.lt_of_lt_of_le hmu161 (Nat.le_of_lt_succ hn161), hF⟩⟩ hmu161
theorem dX11_keep_0 : decode cX11_keep 0 = .ok (.aload_n 0, 1) := by decide +kernel
theorem dX11_keep_1 : decode cX11_keep 1 = .ok (.getfield 16, 3) := by decide +kernel
theorem dX11_keep_4 : decode cX11_keep 4 = .ok (.aload_n 0, 1) := by decide +kernel
theorem dX11_keep_5 : decode cX11_keep 5 = .ok (.getfield 10, 3) := by decide +kernel
theorem dX11_keep_8 : decode cX11_keep 8 = .ok (.invokevirtual 142, 3) := by decide +kernel
theorem dX11_keep_11 : decode cX11_keep 11 = .ok (.aload_n 0, 1) := by decide +kernel
theorem dX11_keep_12 : decode cX11_keep 12 = .ok (.iconst 1, 1) := by decide +kernel
theorem dX11_keep_13 : decode cX11_keep 13 = .ok (.putfield 330, 3) := by decide +kernel
theorem dX11_keep_16 : decode cX11_keep 16 = .ok (.iconst 0, 1) := by decide +kernel
theorem dX11_keep_17 : decode cX11_keep 17 = .ok (.istore_n 1, 1) := by decide +kernel
theorem dX11_keep_18 : decode cX11_keep 18 = .ok (.iconst 0, 1) := by decide +kernel
theorem dX11_keep_19 : decode cX11_keep 19 = .ok (.istore_n 2, 1) := by decide +kernel
theorem dX11_keep_20 : decode cX11_keep 20 = .ok (.iload_n 2, 1) := by decide +kernel
theorem dX11_keep_21 : decode cX11_keep 21 = .ok (.iconst 4, 1) := by decide +kernel
theorem dX11_keep_22 : decode cX11_keep 22 = .ok (.if_icmp .ge 24, 3) := by decide +kernel
theorem dX11_keep_25 : decode cX11_keep 25 = .ok (.iload_n 1, 1) := by decide +kernel
theorem dX11_keep_26 : decode cX11_keep 26 = .ok (.aload_n 0, 1) := by decide +kernel
theorem dX11_keep_27 : decode cX11_keep 27 = .ok (.getfield 10, 3) := by decide +kernel
theorem dX11_keep_30 : decode cX11_keep 30 = .ok (.getfield 78, 3) := by decide +kernel
theorem dX11_keep_33 : decode cX11_keep 33 = .ok (.iload_n 2, 1) := by decide +kernel
theorem dX11_keep_34 : decode cX11_keep 34 = .ok (.aaload, 1) := by decide +kernel
theorem dX11_keep_35 : decode cX11_keep 35 = .ok (.getfield 110, 3) := by decide +kernel
theorem dX11_keep_38 : decode cX11_keep 38 = .ok (.iadd, 1) := by decide +kernel
theorem dX11_keep_39 : decode cX11_keep 39 = .ok (.istore_n 1, 1) := by decide +kernel
theorem dX11_keep_40 : decode cX11_keep 40 = .ok (.iinc 2 1, 3) := by decide +kernel
theorem dX11_keep_43 : decode cX11_keep 43 = .ok (.goto (-23), 3) := by decide +kernel
theorem dX11_keep_46 : decode cX11_keep 46 = .ok (.iload_n 1, 1) := by decide +kernel
theorem dX11_keep_47 : decode cX11_keep 47 = .ok (.ireturn, 1) := by decide +kernel
set_option maxRecDepth 100000 in
def f_s_keep (V : Nat → Nat → Int) (J : Nat → Nat → Int) (Rr : Nat → Nat → Nat) : (Int × (Nat → Nat → Int)) → Prop :=
  calUX (fun i k : Nat => (20 ≤ i ∧ i ≤ 38)) V (f_s_copyK V J Rr) fun V1 => rdb (up2 V1 0 3 1) fun V2 => lop2 (6) (fun rc35 (z32 : Int) (z33 : Int) => (if 4 ≤ z32 then rtn (z33, V2) else rdb (1 + 3 + 2 * z32.toNat) fun c41 => rdb (V2 c41 2) fun z42 => rdb (wr (z33 + z42)) fun z43 => rc35 (z32 + 1) z43)) 0 0
set_option maxHeartbeats 8000000 in
set_option maxRecDepth 100000 in
theorem s_keep (l : Launch) (D : va_G) (cy : Nat → ClassId) (ad : Nat → Nat) (G : Nat → Nat → Int) (V J : Nat → Nat → Int) (Rr : Nat → Nat → Nat) (hI : XU G V) (hJ : VJ J) (hR : XR Rr)  : xMi l D (xTY cy) yX11_keep cX11_keep 3 (some .int) 3 91 0 0 [.ref (ad 0)] (XW cy ad V J Rr) (fun u : Nat → Nat → Int => XW cy ad u J Rr) (fun a (u : Nat → Nat → Int) => XU G u ∧ u 0 3 = 1 ∧ FB (fun i k : Nat => (20 ≤ i ∧ i ≤ 38) ∨ (i = 0 ∧ k = 3)) V u ∧ (f_s_keep V J Rr) (a, u)) := by
  refine xMi.mk (lv0 := [(0, .ref (ad 0))]) (by decide) rfl (Nat.le_of_ble_eq_true rfl) (fun p e s m below meth c A C hr hnm hAe => ?_)
  have C : xC2 p s m _ meth c D A s.heap 3 cX11_keep RX11 (xTY cy) := C
  have hB : FB (fun i k : Nat => (20 ≤ i ∧ i ≤ 38) ∨ (i = 0 ∧ k = 3)) V V := FB.rf _ _
  have hF := Imp.of_eq (f_s_keep.eq_def V J Rr)
  refine x_aload_n C.1 dX11_keep_0 0 rfl ?_
  refine x_getA C (N := 129) (i := 0) (by decide) rfl vc_X11 wx_X11 1 (by decide) wf_X11_16 (a := 20) rfl dX11_keep_1 ?_
  refine x_aload_n C.1 dX11_keep_4 0 rfl ?_
  refine x_getA C (N := 129) (i := 0) (by decide) rfl vc_X11 wx_X11 0 (by decide) wf_X11_10 (a := 1) rfl dX11_keep_5 ?_
  refine x_callVv C (As := [.ref (ad 1)]) (rest := []) 20 (xw_at (N := 129) (i := 20) (by omega) (xd_L (Or.inr (Or.inl rfl)))) vc_X3 (s_copyK l D cy ad G V J Rr hI hJ hR ) (l1 := []) (l2 := []) (List.append_nil _).symm (w2 := fun u : Nat → Nat → Int => XW cy ad u J Rr) (fun _ => List.append_nil _) rfl wm_yX3_copy wn_X3 wl_X11_142 wi_yX3_copy we_yX3_copy hd_yX3_copy rfl ⟨Nat.le_of_ble_eq_true rfl, Nat.le_of_ble_eq_true rfl⟩ (Nat.le_of_ble_eq_true rfl) ⟨Nat.le_of_ble_eq_true rfl, Nat.le_of_ble_eq_true rfl⟩ dX11_keep_8 (fun V1 h1 => ?_)
  obtain ⟨hI1, hBc1, hFc1⟩ := h1
  replace hF := calUX_i hF hFc1 hBc1
  have hB1 := hB.tr hBc1 (fun i k h => (Or.inl h))
  refine x_aload_n C.1 dX11_keep_11 0 rfl ?_
  refine x_iconst C.1 (n := 1) dX11_keep_12 ?_
  refine x_putI C (N := 129) (i := 0) (by decide) rfl vc_X11 wx_X11 3 (by decide) wf_X11_330 tyX11 tyX11_ok nmX11 rfl (tyX11_ok 3 (by decide)) rfl dX11_keep_13 (by decide) (by decide) ?_
  refine x_gV ?_
  intro V2 hV2
  have hI2 : XU G V2 := hI1.up hV2 rfl (by decide) trivial
  have hB2 := hB1.up hV2 (Or.inr (⟨rfl, rfl⟩))
  replace hF := hF.to (rdb_e (z := V2) hV2.symm)
  refine x_iconst C.1 (n := 0) dX11_keep_16 ?_
  refine x_istore_n C.1 (lv' := [(1, vI 0), (0, .ref (ad 0))]) dX11_keep_17 (by decide) rfl ?_
  refine x_iconst C.1 (n := 0) dX11_keep_18 ?_
  refine x_istore_n C.1 (lv' := [(2, vI 0), (1, vI 0), (0, .ref (ad 0))]) dX11_keep_19 (by decide) rfl ?_
  obtain ⟨bd35, hbd35, hF⟩ := lop2_ex hF
  refine x_loop (I := fun x : Int × Int => match x with | (z32, z33) => (0 ≤ z32 ∧ z32 ≤ 4) ∧ (-2147483648 ≤ z33 ∧ z33 ≤ 2147483647) ∧ (∃ nf : Nat, (5 - z32).toNat < nf ∧ Imp (lop2 nf bd35 z32 z33) (f_s_keep V J Rr))) (μ := fun x : Int × Int => match x with | (z32, z33) => (5 - z32).toNat) (wsf := fun x : Int × Int => match x with | (z32, z33) => XW cy ad V2 J Rr) (lvf := fun x : Int × Int => match x with | (z32, z33) => [(2, vI z32), (1, vI z33), (0, .ref (ad 0))]) (fun x hI35x ih35 => ?_) (0, 0) ⟨⟨by decide, by decide⟩, ⟨by decide, by decide⟩, ⟨_, (by omega), hF⟩⟩ rfl rfl
  obtain ⟨z32, z33⟩ := x
  obtain ⟨bz32, bz33, nf35, hn35, hF⟩ := hI35x
  try dsimp only
  obtain ⟨nf35, rfl⟩ : ∃ mm, nf35 = mm + 1 := ⟨nf35 - 1, (Nat.succ_pred_eq_of_pos (Nat.lt_of_le_of_lt (Nat.zero_le _) hn35)).symm⟩
  replace hF := hF.to (lop2_s hbd35)
  refine x_iload_n C.1 dX11_keep_20 0 rfl ?_
  refine x_iconst C.1 (n := 4) dX11_keep_21 ?_
  refine x_icmp_ge C.1 (tgt := 46) dX11_keep_22 (by decide) (by omega) (by decide) (fun hc40 => ?_) (fun hc40 => ?_)
  · replace hF := hF.to (if_pos hc40)
    refine x_iload_n C.1 dX11_keep_46 1 rfl ?_
    exact x_iret (S := (Nat → Nat → Int)) (post := (fun a (u : Nat → Nat → Int) => XU G u ∧ u 0 3 = 1 ∧ FB (fun i k : Nat => (20 ≤ i ∧ i ≤ 38) ∨ (i = 0 ∧ k = 3)) V u ∧ (f_s_keep V J Rr) (a, u))) (w1 := (fun u : Nat → Nat → Int => XW cy ad u J Rr)) (a := z33) C hr rfl dX11_keep_47 (by omega) V2 rfl ⟨hI2, ((congrFun (congrFun hV2 0) 3).trans (up2_s _ _ _ _)), hB2, hF _ rfl⟩
  · replace hF := hF.to (if_neg hc40)
    refine x_iload_n C.1 dX11_keep_25 1 rfl ?_
    refine x_aload_n C.1 dX11_keep_26 2 rfl ?_
    refine x_getA C (N := 129) (i := 0) (by decide) rfl vc_X11 wx_X11 0 (by decide) wf_X11_10 (a := 1) rfl dX11_keep_27 ?_
    refine x_getA C (N := 129) (i := 1) (by omega) (xd_L (Or.inl rfl)) vc_X3 wx_X3 0 (by decide) wf_X11_78 (a := 2) rfl dX11_keep_30 ?_
    refine x_iload_n C.1 dX11_keep_33 0 rfl ?_
    obtain ⟨c41, ec41, hc41⟩ : ∃ cx : Nat, 1 + 3 + 2 * z32.toNat = cx ∧ isPl cx := ⟨_, rfl, isPl_L (Or.inl rfl) (by omega)⟩
    replace hF := hF.to (rdb_e (z := c41) ec41)
    refine x_aldS C (N := 129) (i := 2) (q := z32) (t := 4) rfl (by omega) (xd_La (Or.inl rfl)) (by omega) (by decide) dX11_keep_34 (a := c41) ec41 ?_
    obtain ⟨z42, ez42, bz42⟩ := hI2.rd c41 2 (x := -2147483648) (y := 2147483647) (rg_P hc41 2)
    replace hF := hF.to (rdb_e (z := z42) ez42)
    refine x_getI C (N := 129) (i := c41) (Nat.lt_of_succ_lt hc41.1) hc41.2.1 vc_X5 wx_X5 2 (by decide) wf_X11_110 rfl dX11_keep_35 (a := z42) ez42 ?_
    refine x_iadd C.1 (v := z33 + z42) (by omega) dX11_keep_38 ?_
    refine x_wrapg ?_
    intro z43 bz43 ew43
    replace hF := hF.to (rdb_e (z := z43) ew43.symm)
    refine x_istore_n C.1 (lv' := [(1, vI z43), (2, vI z32), (0, .ref (ad 0))]) dX11_keep_39 (by decide) rfl ?_
    refine x_iinc C.1 (v := z32 + 1) (lv' := [(2, vI (z32 + 1)), (1, vI z43), (0, .ref (ad 0))]) (by omega) dX11_keep_40 1 rfl (by decide) rfl ?_
    refine x_goto C.1 (tgt := 20) dX11_keep_43 (by decide) ?_
    have hmu35 : (5 - (z32 + 1)).toNat < (5 - z32).toNat := (by omega)
    exact ih35 (z32 + 1, z43) ⟨⟨by omega, by omega⟩, ⟨by omega, by omega⟩, ⟨nf35, Nat.lt_of_lt_of_le hmu35 (Nat.le_of_lt_succ hn35), hF⟩⟩ hmu35
theorem dX11_undo_0 : decode cX11_undo 0 = .ok (.aload_n 0, 1) := by decide +kernel
theorem dX11_undo_1 : decode cX11_undo 1 = .ok (.getfield 330, 3) := by decide +kernel
theorem dX11_undo_4 : decode cX11_undo 4 = .ok (.ifCond .ne 5, 3) := by decide +kernel
theorem dX11_undo_7 : decode cX11_undo 7 = .ok (.iconst 0, 1) := by decide +kernel
theorem dX11_undo_8 : decode cX11_undo 8 = .ok (.ireturn, 1) := by decide +kernel
theorem dX11_undo_9 : decode cX11_undo 9 = .ok (.aload_n 0, 1) := by decide +kernel
theorem dX11_undo_10 : decode cX11_undo 10 = .ok (.getfield 10, 3) := by decide +kernel
theorem dX11_undo_13 : decode cX11_undo 13 = .ok (.aload_n 0, 1) := by decide +kernel
theorem dX11_undo_14 : decode cX11_undo 14 = .ok (.getfield 16, 3) := by decide +kernel
theorem dX11_undo_17 : decode cX11_undo 17 = .ok (.invokevirtual 142, 3) := by decide +kernel
theorem dX11_undo_20 : decode cX11_undo 20 = .ok (.iconst 1, 1) := by decide +kernel
theorem dX11_undo_21 : decode cX11_undo 21 = .ok (.ireturn, 1) := by decide +kernel
set_option maxRecDepth 100000 in
def f_s_undo (V : Nat → Nat → Int) (J : Nat → Nat → Int) (Rr : Nat → Nat → Nat) : (Int × (Nat → Nat → Int)) → Prop :=
  rdb (V 0 3) fun z1 => fct (0 ≤ z1 ∧ z1 ≤ 1) <| (if ¬ z1 = 0 then calUX (fun i k : Nat => (1 ≤ i ∧ i ≤ 19)) V (f_s_copyB V J Rr) fun V3 => rtn (1, V3) else rtn (0, V))
set_option maxHeartbeats 8000000 in
set_option maxRecDepth 100000 in
theorem s_undo (l : Launch) (D : va_G) (cy : Nat → ClassId) (ad : Nat → Nat) (G : Nat → Nat → Int) (V J : Nat → Nat → Int) (Rr : Nat → Nat → Nat) (hI : XU G V) (hJ : VJ J) (hR : XR Rr)  : xMi l D (xTY cy) yX11_undo cX11_undo 1 (some .boolean) 3 91 0 0 [.ref (ad 0)] (XW cy ad V J Rr) (fun u : Nat → Nat → Int => XW cy ad u J Rr) (fun a (u : Nat → Nat → Int) => XU G u ∧ a = V 0 3 ∧ FB (fun i k : Nat => (1 ≤ i ∧ i ≤ 19)) V u ∧ (f_s_undo V J Rr) (a, u)) := by
  refine xMi.mk (lv0 := [(0, .ref (ad 0))]) (by decide) rfl (Nat.le_of_ble_eq_true rfl) (fun p e s m below meth c A C hr hnm hAe => ?_)
  have C : xC2 p s m _ meth c D A s.heap 1 cX11_undo RX11 (xTY cy) := C
  have hB : FB (fun i k : Nat => (1 ≤ i ∧ i ≤ 19)) V V := FB.rf _ _
  have hF := Imp.of_eq (f_s_undo.eq_def V J Rr)
  refine x_aload_n C.1 dX11_undo_0 0 rfl ?_
  obtain ⟨z1, ez1, bz1⟩ := hI.rd 0 3 (x := 0) (y := 1) rfl
  replace hF := hF.to (rdb_e (z := z1) ez1)
  replace hF := hF.fc bz1
  refine x_getI C (N := 129) (i := 0) (by decide) rfl vc_X11 wx_X11 3 (by decide) wf_X11_330 rfl dX11_undo_1 (a := z1) ez1 ?_
  refine x_if_ne C.1 (tgt := 9) dX11_undo_4 (by decide) (by omega) (fun hc2 => ?_) (fun hc2 => ?_)
  · replace hF := hF.to (if_pos hc2)
    refine x_aload_n C.1 dX11_undo_9 0 rfl ?_
    refine x_getA C (N := 129) (i := 0) (by decide) rfl vc_X11 wx_X11 0 (by decide) wf_X11_10 (a := 1) rfl dX11_undo_10 ?_
    refine x_aload_n C.1 dX11_undo_13 0 rfl ?_
    refine x_getA C (N := 129) (i := 0) (by decide) rfl vc_X11 wx_X11 1 (by decide) wf_X11_16 (a := 20) rfl dX11_undo_14 ?_
    refine x_callVv C (As := [.ref (ad 20)]) (rest := []) 1 (xw_at (N := 129) (i := 1) (by omega) (xd_L (Or.inl rfl))) vc_X3 (s_copyB l D cy ad G V J Rr hI hJ hR ) (l1 := []) (l2 := []) (List.append_nil _).symm (w2 := fun u : Nat → Nat → Int => XW cy ad u J Rr) (fun _ => List.append_nil _) rfl wm_yX3_copy wn_X3 wl_X11_142 wi_yX3_copy we_yX3_copy hd_yX3_copy rfl ⟨Nat.le_of_ble_eq_true rfl, Nat.le_of_ble_eq_true rfl⟩ (Nat.le_of_ble_eq_true rfl) ⟨Nat.le_of_ble_eq_true rfl, Nat.le_of_ble_eq_true rfl⟩ dX11_undo_17 (fun V3 h3 => ?_)
    obtain ⟨hI3, hBc3, hFc3⟩ := h3
    replace hF := calUX_i hF hFc3 hBc3
    have hB3 := hB.tr hBc3 (fun i k h => (h))
    refine x_iconst C.1 (n := 1) dX11_undo_20 ?_
    exact x_zret (S := (Nat → Nat → Int)) (post := (fun a (u : Nat → Nat → Int) => XU G u ∧ a = V 0 3 ∧ FB (fun i k : Nat => (1 ≤ i ∧ i ≤ 19)) V u ∧ (f_s_undo V J Rr) (a, u))) (w1 := (fun u : Nat → Nat → Int => XW cy ad u J Rr)) (a := 1) C hr rfl dX11_undo_21 (by decide) V3 rfl ⟨hI3, (by omega), hB3, hF _ rfl⟩
  · replace hF := hF.to (if_neg (fun hh => hh hc2))
    refine x_iconst C.1 (n := 0) dX11_undo_7 ?_
    exact x_zret (S := (Nat → Nat → Int)) (post := (fun a (u : Nat → Nat → Int) => XU G u ∧ a = V 0 3 ∧ FB (fun i k : Nat => (1 ≤ i ∧ i ≤ 19)) V u ∧ (f_s_undo V J Rr) (a, u))) (w1 := (fun u : Nat → Nat → Int => XW cy ad u J Rr)) (a := 0) C hr rfl dX11_undo_8 (by decide) V rfl ⟨hI, (by omega), hB, hF _ rfl⟩
end
section
-- the reference's reading of texts: what its stack and its code are
def pdv (w : Int) : Int := iDiv w 1048576
def prm (w : Int) : Int := iRem w 1048576
theorem pdv_m {s v : Int} (hs : 0 ≤ s ∧ s ≤ 14) (hv : 0 ≤ v ∧ v ≤ 1048575) : pdv (1048576 * s + v) = s := by
  rw [pdv, iDiv_p (by omega) (by omega)]
  omega
theorem prm_m {s v : Int} (hs : 0 ≤ s ∧ s ≤ 14) (hv : 0 ≤ v ∧ v ≤ 1048575) : prm (1048576 * s + v) = v := by
  rw [prm, iRem_p (by omega) (by omega)]
  omega
/-- a sum's operator waits there -/
def pio (w : Int) : Prop := 2 ≤ pdv w ∧ pdv w ≤ 6
def pcn (w : Nat → Int) (b : Nat) : Nat → Int
  | 0 => 0
  | n + 1 => pcn w b n + (if 2 ≤ pdv (w (b + n)) ∧ pdv (w (b + n)) ≤ 6 then 1 else 0)
theorem pcn_nn (w : Nat → Int) (b : Nat) : ∀ n : Nat, 0 ≤ pcn w b n
  | 0 => Int.le_refl _
  | n + 1 => by
    have := pcn_nn w b n
    rw [pcn]
    split <;> omega
theorem pcn_c {w w2 : Nat → Int} {b : Nat} : ∀ n : Nat, (∀ j : Nat, j < n → w2 (b + j) = w (b + j)) → pcn w2 b n = pcn w b n
  | 0, _ => rfl
  | n + 1, h => by rw [pcn, pcn, pcn_c n (fun j hj => h j (by omega)), h n (by omega)]
/-- one step of straight code: the stack's height before it and behind it -/
def pst (e e2 cz : Int) : Prop := 0 ≤ cz ∧ 0 ≤ e ∧ 0 ≤ e2 ∧ ((cz / 1048576 = 0 ∧ e2 = e + 1) ∨ (cz / 1048576 = 1 ∧ cz % 1048576 ≤ 12 ∧ e2 = e + 1) ∨ (2 ≤ cz / 1048576 ∧ cz / 1048576 ≤ 6 ∧ 2 ≤ e ∧ e2 = e - 1))
def psl (c : Nat → Int) (a b e : Int) : Prop := ∃ g : Int → Int, g a = 0 ∧ g b = e ∧ ∀ z : Int, a ≤ z → z < b → g z ≤ z - a ∧ g (z + 1) ≤ z + 1 - a ∧ pst (g z) (g (z + 1)) (c z.toNat)
theorem psl.nil {c : Nat → Int} {a : Int} : psl c a a 0 := ⟨fun _ => 0, rfl, rfl, fun z h1 h2 => by omega⟩
theorem psl.ext {c c2 : Nat → Int} {a b e e2 : Int} (h : psl c a b e) (ha : 0 ≤ a ∧ a ≤ b) (hc : ∀ k : Nat, (k : Int) < b → c2 k = c k) (hs : pst e e2 (c2 b.toNat)) : psl c2 a (b + 1) e2 := by
  obtain ⟨g, g0, g1, g2⟩ := h
  have hle : e ≤ b - a := by
    by_cases hab : a = b
    · subst hab; omega
    · have := (g2 (b - 1) (by omega) (by omega)).2.1
      rw [show b - 1 + 1 = b by omega, g1] at this
      exact this
  have hup : e2 ≤ e + 1 := by
    have := hs.2.2.2
    omega
  refine ⟨fun z => if z = b + 1 then e2 else g z, ?_, ?_, fun z h1 h2 => ?_⟩
  · show (if a = b + 1 then e2 else g a) = 0
    rw [if_neg (by omega)]; exact g0
  · show (if b + 1 = b + 1 then e2 else g (b + 1)) = e2
    rw [if_pos rfl]
  · show (if z = b + 1 then e2 else g z) ≤ z - a ∧ (if z + 1 = b + 1 then e2 else g (z + 1)) ≤ z + 1 - a ∧ pst (if z = b + 1 then e2 else g z) (if z + 1 = b + 1 then e2 else g (z + 1)) (c2 z.toNat)
    rw [if_neg (by omega)]
    by_cases e : z = b
    · subst e
      rw [if_pos rfl, g1]
      exact ⟨by omega, by omega, hs⟩
    · rw [if_neg (by omega), hc z.toNat (by omega)]
      exact g2 z h1 (by omega)
theorem psl.cc {c c2 : Nat → Int} {a b e : Int} (h : psl c a b e) (ha : 0 ≤ a) (hc : ∀ k : Nat, (k : Int) < b → c2 k = c k) : psl c2 a b e := by
  obtain ⟨g, g0, g1, g2⟩ := h
  exact ⟨g, g0, g1, fun z h1 h2 => by rw [hc z.toNat (by omega)]; exact g2 z h1 h2⟩
/-- places -/
def PG (V : Nat → Nat → Int) : Prop := 0 ≤ V 0 5 ∧ V 0 5 ≤ V 0 6 ∧ V 0 6 ≤ 200 ∧ 0 ≤ V 0 11 ∧ V 0 11 ≤ V 0 5 ∧ 0 ≤ V 0 10
/-- within a sum: from the stack's place b and the code's place c0 on; e: whether the operand is read -/
def SI (b c0 d e : Int) (V : Nat → Nat → Int) : Prop :=
  0 ≤ b ∧ b ≤ V 0 11 ∧ 0 ≤ c0 ∧ c0 ≤ V 0 10 ∧ V 0 10 + (V 0 11 - b) + d ≤ V 0 5 ∧ 0 ≤ d ∧
  (∀ j : Nat, b ≤ j → (j : Int) < V 0 11 → pio (V 6 j) ∨ pdv (V 6 j) = 14) ∧
  psl (V 5) c0 (V 0 10) (pcn (V 6) b.toNat (V 0 11 - b).toNat + e)
/-- what a sum leaves as it was -/
def FrS (b c0 : Int) (V u : Nat → Nat → Int) : Prop := (∀ k : Nat, (k : Int) < c0 → u 5 k = V 5 k) ∧ (∀ k : Nat, (k : Int) < b → u 6 k = V 6 k) ∧ u 0 6 = V 0 6 ∧ u 0 12 = V 0 12 ∧ (∀ i : Nat, i ≠ 0 → i ≠ 5 → i ≠ 6 → u i = V i) ∧ V 0 5 ≤ u 0 5
theorem FrS.rf {b c0 : Int} {V : Nat → Nat → Int} : FrS b c0 V V := ⟨fun _ _ => rfl, fun _ _ => rfl, rfl, rfl, fun _ _ _ _ => rfl, Int.le_refl _⟩
theorem FrS.tr {b c0 : Int} {V W u : Nat → Nat → Int} (h : FrS b c0 V W) (k : FrS b c0 W u) : FrS b c0 V u := ⟨fun q hq => (k.1 q hq).trans (h.1 q hq), fun q hq => (k.2.1 q hq).trans (h.2.1 q hq), k.2.2.1.trans h.2.2.1, k.2.2.2.1.trans h.2.2.2.1, fun i a b c => (k.2.2.2.2.1 i a b c).trans (h.2.2.2.2.1 i a b c), Int.le_trans h.2.2.2.2.2 k.2.2.2.2.2⟩
/-- a number of row 0 is written -/
theorem up0 {V : Nat → Nat → Int} {k : Nat} {a : Int} {i q : Nat} (h : i ≠ 0 ∨ q ≠ k) : up2 V 0 k a i q = V i q := up2_n _ _ h
theorem up0r {V : Nat → Nat → Int} {k : Nat} {a : Int} {i : Nat} (h : i ≠ 0) : up2 V 0 k a i = V i := up2_c _ _ h
/-- a word is noted -/
theorem SI.note {b c0 d e e2 : Int} {V u : Nat → Nat → Int} {w : Int} {q : Nat} (h : SI b c0 d e V) (hq : q = (V 0 10).toNat) (h5 : ∀ k : Nat, u 5 k = if k = q then w else V 5 k) (h6 : u 6 = V 6) (h10 : u 0 10 = V 0 10 + 1) (h11 : u 0 11 = V 0 11) (hp : u 0 10 + (u 0 11 - b) + d ≤ u 0 5) (hs : pst (pcn (V 6) b.toNat (V 0 11 - b).toNat + e) (pcn (V 6) b.toNat (V 0 11 - b).toNat + e2) w) : SI b c0 d e2 u := by
  obtain ⟨a1, a2, a3, a4, a5, a6, a7, a8⟩ := h
  refine ⟨a1, by omega, a3, by omega, hp, a6, fun j hj1 hj2 => by rw [h6]; exact a7 j hj1 (by omega), ?_⟩
  rw [h10, h11, h6]
  refine psl.ext a8 ⟨a3, a4⟩ (fun k hk => by rw [h5, if_neg (by omega)]) ?_
  rw [h5, if_pos hq.symm]
  exact hs
theorem SI.start {V : Nat → Nat → Int} (hP : PG V) (hc : V 0 10 ≤ V 0 5) : SI (V 0 11) (V 0 10) (V 0 5 - V 0 10) 0 V := by
  obtain ⟨p1, p2, p3, p4, p5, p6⟩ := hP
  refine ⟨p4, Int.le_refl _, p6, Int.le_refl _, by omega, by omega, fun j h1 h2 => by omega, ?_⟩
  rw [show (V 0 11 - V 0 11).toNat = 0 by omega]
  exact psl.nil
theorem SI.done {b c0 d : Int} {V : Nat → Nat → Int} (h : SI b c0 d 1 V) (hw : V 0 11 = b) : psl (V 5) c0 (V 0 10) 1 := by
  have := h.2.2.2.2.2.2.2
  rw [hw, show (b - b).toNat = 0 by omega] at this
  exact this
theorem SI.c200 {b c0 d e : Int} {V : Nat → Nat → Int} (h : SI b c0 d e V) (hP : PG V) : V 0 10 ≤ 200 ∧ V 0 11 ≤ 200 ∧ V 0 5 ≤ 200 := by
  obtain ⟨p1, p2, p3, p4, p5, p6⟩ := hP
  obtain ⟨a1, a2, a3, a4, a5, a6, -⟩ := h
  omega
theorem SI.close {b c0 d : Int} {V u : Nat → Nat → Int} (h : SI b c0 d 1 V) (ht : pio (V 6 (V 0 11 - 1).toNat)) (hgt : b < V 0 11) (h5 : ∀ k : Nat, u 5 k = if k = (V 0 10).toNat then 1048576 * pdv (V 6 (V 0 11 - 1).toNat) + 0 else V 5 k) (h6 : u 6 = V 6) (h10 : u 0 10 = V 0 10 + 1) (h11 : u 0 11 = V 0 11 - 1) (hp : u 0 5 = V 0 5) : SI b c0 d 1 u := by
  obtain ⟨a1, a2, a3, a4, a5, a6, a7, a8⟩ := h
  have e1 : (V 0 11 - b).toNat = (V 0 11 - 1 - b).toNat + 1 := by omega
  have e2 : b.toNat + (V 0 11 - 1 - b).toNat = (V 0 11 - 1).toNat := by omega
  have e3 : pcn (V 6) b.toNat (V 0 11 - b).toNat = pcn (V 6) b.toNat (V 0 11 - 1 - b).toNat + 1 := by
    have ht2 : 2 ≤ pdv (V 6 (V 0 11 - 1).toNat) ∧ pdv (V 6 (V 0 11 - 1).toNat) ≤ 6 := ht
    rw [e1, pcn, e2, if_pos ht2]
  have hn := pcn_nn (V 6) b.toNat (V 0 11 - 1 - b).toNat
  refine ⟨a1, by omega, a3, by omega, by omega, a6, fun j hj1 hj2 => by rw [h6]; exact a7 j hj1 (by omega), ?_⟩
  rw [h10, h11, h6]
  rw [e3] at a8
  refine psl.ext a8 ⟨a3, a4⟩ (fun k hk => by rw [h5, if_neg (by omega)]) ?_
  rw [h5, if_pos rfl]
  obtain ⟨t1, t2⟩ := ht
  exact ⟨by omega, by omega, by omega, Or.inr (Or.inr ⟨by omega, by omega, by omega, by omega⟩)⟩
theorem SI.push {b c0 d e e2 : Int} {V u : Nat → Nat → Int} {x : Int} (h : SI b c0 d e V) (hx : (pio x ∧ e = e2 + 1) ∨ (pdv x = 14 ∧ e = e2)) (h5 : u 5 = V 5) (h6 : ∀ k : Nat, u 6 k = if k = (V 0 11).toNat then x else V 6 k) (h10 : u 0 10 = V 0 10) (h11 : u 0 11 = V 0 11 + 1) (hp : u 0 5 = V 0 5 + 1) : SI b c0 d e2 u := by
  obtain ⟨a1, a2, a3, a4, a5, a6, a7, a8⟩ := h
  have e1 : (V 0 11 + 1 - b).toNat = (V 0 11 - b).toNat + 1 := by omega
  have e4 : b.toNat + (V 0 11 - b).toNat = (V 0 11).toNat := by omega
  have e3 : pcn (u 6) b.toNat (V 0 11 + 1 - b).toNat + e2 = pcn (V 6) b.toNat (V 0 11 - b).toNat + e := by
    rw [e1, pcn, e4, pcn_c (w := V 6) _ (fun j hj => by rw [h6, if_neg (by omega)]), h6, if_pos rfl]
    rcases hx with ⟨hx, h⟩ | ⟨hx, h⟩
    · have hx2 : 2 ≤ pdv x ∧ pdv x ≤ 6 := hx
      rw [if_pos hx2]; omega
    · rw [if_neg (by omega)]; omega
  refine ⟨a1, by omega, a3, by omega, by omega, a6, fun j hj1 hj2 => ?_, ?_⟩
  · rw [h6]
    by_cases hj : j = (V 0 11).toNat
    · rw [if_pos hj]
      rcases hx with ⟨hx, -⟩ | ⟨hx, -⟩
      · exact Or.inl hx
      · exact Or.inr hx
    · rw [if_neg hj]
      exact a7 j hj1 (by omega)
  · rw [h10, h11, e3, h5]
    exact a8
theorem SI.pop14 {b c0 d : Int} {V u : Nat → Nat → Int} (h : SI b c0 d 1 V) (ht : pdv (V 6 (V 0 11 - 1).toNat) = 14) (hgt : b < V 0 11) (h5 : u 5 = V 5) (h6 : u 6 = V 6) (h10 : u 0 10 = V 0 10) (h11 : u 0 11 = V 0 11 - 1) (hp : V 0 5 ≤ u 0 5) : SI b c0 d 1 u := by
  obtain ⟨a1, a2, a3, a4, a5, a6, a7, a8⟩ := h
  have e1 : (V 0 11 - b).toNat = (V 0 11 - 1 - b).toNat + 1 := by omega
  have e2 : b.toNat + (V 0 11 - 1 - b).toNat = (V 0 11 - 1).toNat := by omega
  have e3 : pcn (V 6) b.toNat (V 0 11 - b).toNat = pcn (V 6) b.toNat (V 0 11 - 1 - b).toNat := by
    rw [e1, pcn, e2, if_neg (by omega)]; omega
  refine ⟨a1, by omega, a3, by omega, by omega, a6, fun j hj1 hj2 => by rw [h6]; exact a7 j hj1 (by omega), ?_⟩
  rw [h10, h11, h6, h5, ← e3]
  exact a8
def ptop (V : Nat → Nat → Int) : Int := if V 0 11 = 0 then -1 else pdv (V 6 (V 0 11 - 1).toNat)
theorem ptop_n {V : Nat → Nat → Int} (h : ¬ ptop V = -1) : ¬ V 0 11 = 0 ∧ ptop V = pdv (V 6 (V 0 11 - 1).toNat) := by
  by_cases e : V 0 11 = 0
  · exact absurd (by rw [ptop, if_pos e]) h
  · exact ⟨e, by rw [ptop, if_neg e]⟩
/-- closesSums so far -/
def pCL (b c0 d : Int) (V u : Nat → Nat → Int) : Prop := SI b c0 d 1 u ∧ PG u ∧ u 6 = V 6 ∧ FrS b c0 V u ∧ u 0 5 = V 0 5 ∧ (∀ j : Nat, u 0 11 ≤ j → (j : Int) < V 0 11 → pio (V 6 j)) ∧ u 0 11 ≤ V 0 11
theorem pCL.rf {b c0 d : Int} {V : Nat → Nat → Int} (h : SI b c0 d 1 V) (hP : PG V) : pCL b c0 d V V := ⟨h, hP, rfl, FrS.rf, rfl, fun j h1 h2 => by omega, Int.le_refl _⟩
theorem pCL.step {b c0 d : Int} {V W u : Nat → Nat → Int} (h : pCL b c0 d V W) (hb : b = 0 ∨ ¬ pio (V 6 (b - 1).toNat)) (ht : 2 ≤ ptop W ∧ ptop W ≤ 6) (hu : u = up2 (up2 (up2 W 5 (W 0 10).toNat (1048576 * ptop W + 0)) 0 10 (W 0 10 + 1)) 0 11 (W 0 11 - 1)) : pCL b c0 d V u := by
  obtain ⟨hS, ⟨p1, p2, p3, p4, p5, p6⟩, h6, hF, h05, hj, hle⟩ := h
  obtain ⟨t0, t1⟩ := ptop_n (V := W) (by omega)
  have hS' := hS
  obtain ⟨a1, a2, a3, a4, a5, a6, a7, a8⟩ := hS
  have hpio : pio (W 6 (W 0 11 - 1).toNat) := by rw [t1] at ht; exact ht
  have hgt : b < W 0 11 := by
    rcases Int.lt_or_le b (W 0 11) with g | g
    · exact g
    · have hbe : W 0 11 = b := by omega
      rcases hb with hb | hb
      · omega
      · rw [hbe, h6] at hpio
        exact absurd hpio hb
  have u5 : ∀ k : Nat, u 5 k = if k = (W 0 10).toNat then 1048576 * pdv (W 6 (W 0 11 - 1).toNat) + 0 else W 5 k := by
    intro k
    rw [hu, up2_n _ _ (Or.inl (by omega)), up2_n _ _ (Or.inl (by omega)), t1]
    by_cases e : k = (W 0 10).toNat
    · subst e; rw [up2_s, if_pos rfl]
    · rw [up2_n _ _ (Or.inr e), if_neg e]
  have u6 : u 6 = W 6 := by rw [hu, up0r (by omega), up0r (by omega), up2_c _ _ (by omega)]
  have u10 : u 0 10 = W 0 10 + 1 := by rw [hu, up2_n _ _ (Or.inr (by omega)), up2_s]
  have u11 : u 0 11 = W 0 11 - 1 := by rw [hu, up2_s]
  have uo : ∀ k : Nat, k ≠ 10 → k ≠ 11 → u 0 k = W 0 k := fun k k1 k2 => by rw [hu, up2_n _ _ (Or.inr k2), up2_n _ _ (Or.inr k1), up2_n _ _ (Or.inl (by omega))]
  have ur : ∀ i : Nat, i ≠ 0 → i ≠ 5 → u i = W i := fun i i1 i2 => by rw [hu, up0r i1, up0r i1, up2_c _ _ i2]
  refine ⟨SI.close hS' hpio hgt u5 u6 u10 u11 (uo 5 (by omega) (by omega)), ⟨?_, ?_, ?_, ?_, ?_, ?_⟩, u6.trans h6, hF.tr ⟨fun k hk => by rw [u5, if_neg (by omega)], fun k _ => by rw [u6], uo 6 (by omega) (by omega), uo 12 (by omega) (by omega), fun i i1 i2 i3 => ur i i1 i2, by rw [uo 5 (by omega) (by omega)]; exact Int.le_refl _⟩, (uo 5 (by omega) (by omega)).trans h05, fun j j1 j2 => ?_, by omega⟩
  · rw [uo 5 (by omega) (by omega)]; exact p1
  · rw [uo 5 (by omega) (by omega), uo 6 (by omega) (by omega)]; exact p2
  · rw [uo 6 (by omega) (by omega)]; exact p3
  · omega
  · rw [uo 5 (by omega) (by omega)]; omega
  · omega
  · by_cases e : (j : Int) = W 0 11 - 1
    · have : j = (W 0 11 - 1).toNat := by omega
      rw [this, ← h6]; exact hpio
    · exact hj j (by omega) j2
theorem pCL.top {b c0 d : Int} {V W : Nat → Nat → Int} (h : pCL b c0 d V W) (ht : ¬ (2 ≤ ptop W ∧ ptop W ≤ 6)) : W 0 11 = b ∨ (b < W 0 11 ∧ pdv (V 6 (W 0 11 - 1).toNat) = 14) := by
  obtain ⟨⟨a1, a2, a3, a4, a5, a6, a7, a8⟩, hP, h6, -⟩ := h
  rcases Int.lt_or_le b (W 0 11) with g | g
  · right
    refine ⟨g, ?_⟩
    rw [ptop, if_neg (by omega)] at ht
    rcases a7 (W 0 11 - 1).toNat (by omega) (by omega) with k | k
    · exact absurd k ht
    · rw [← h6]; exact k
  · left; omega
end
section
-- within a condition
def pnt (w : Nat → Int) : Nat → Int
  | 0 => 0
  | n + 1 => pnt w n + (if pdv (w n) = 10 then 1 else 0)
theorem pnt_nn (w : Nat → Int) : ∀ n : Nat, 0 ≤ pnt w n
  | 0 => Int.le_refl _
  | n + 1 => by
    have := pnt_nn w n
    rw [pnt]
    split <;> omega
theorem pnt_c {w w2 : Nat → Int} : ∀ n : Nat, (∀ j : Nat, j < n → w2 j = w j) → pnt w2 n = pnt w n
  | 0, _ => rfl
  | n + 1, h => by rw [pnt, pnt, pnt_c n (fun j hj => h j (by omega)), h n (by omega)]
def pjm (x : Int) : Prop := x = 11 ∨ x = 12
def pcs (h : Int → Int) (w : Nat → Int) (W f C z cz : Int) : Prop := 0 ≤ cz ∧ (0 ≤ h z ∧ h z ≤ z - f) ∧ (0 ≤ h (z + 1) ∧ h (z + 1) ≤ z + 1 - f) ∧
  ((cz / 1048576 = 0 ∧ h (z + 1) = h z + 1) ∨ (cz / 1048576 = 1 ∧ cz % 1048576 ≤ 12 ∧ h (z + 1) = h z + 1) ∨ (cz / 1048576 = 10 ∧ 1 ≤ h z ∧ h (z + 1) = h z) ∨
   (pjm (cz / 1048576) ∧ h z = 1 ∧ h (z + 1) = 0 ∧ ((∃ j : Nat, (j : Int) < W ∧ pjm (pdv (w j)) ∧ prm (w j) = z) ∨ (z < cz % 1048576 ∧ cz % 1048576 ≤ C ∧ h (cz % 1048576) = 1))) ∨
   (2 ≤ cz / 1048576 ∧ cz / 1048576 ≤ 9 ∧ 2 ≤ h z ∧ h (z + 1) = h z - 1))
def pen (V : Nat → Nat → Int) (f : Int) (j : Nat) : Prop := pdv (V 6 j) = 10 ∨ pdv (V 6 j) = 13 ∨ (pjm (pdv (V 6 j)) ∧ f ≤ prm (V 6 j) ∧ prm (V 6 j) < V 0 10 ∧ pjm (V 5 (prm (V 6 j)).toNat / 1048576))
/-- within a condition: the code from f on, d: what is still to be noted, e: the stack's height -/
def CI (f d e : Int) (V : Nat → Nat → Int) : Prop := 0 ≤ f ∧ f ≤ V 0 10 ∧ 0 ≤ d ∧ V 0 10 + pnt (V 6) (V 0 11).toNat + d ≤ V 0 5 ∧ 0 ≤ V 0 11 ∧ (0 < V 0 11 → pdv (V 6 0) = 13) ∧ (∀ j : Nat, (j : Int) < V 0 11 → pen V f j) ∧
  ∃ h : Int → Int, h f = 0 ∧ h (V 0 10) = e ∧ ∀ z : Int, f ≤ z → z < V 0 10 → pcs h (V 6) (V 0 11) f (V 0 10) z (V 5 z.toNat)
theorem CI.start {V : Nat → Nat → Int} (h11 : V 0 11 = 0) (hc : 0 ≤ V 0 10 ∧ V 0 10 ≤ V 0 5) : CI (V 0 10) 0 0 V := by
  refine ⟨hc.1, Int.le_refl _, Int.le_refl _, ?_, by omega, fun h => by omega, fun j hj => by omega, fun _ => 0, rfl, rfl, fun z h1 h2 => by omega⟩
  rw [h11]
  show V 0 10 + 0 + 0 ≤ _
  omega
theorem CI.eb {f d e : Int} {V : Nat → Nat → Int} (h : CI f d e V) : e ≤ V 0 10 - f := by
  obtain ⟨a1, a2, a3, a4, a5, a6, a7, g, g0, g1, g2⟩ := h
  by_cases hz : f = V 0 10
  · rw [← hz, g0] at g1; omega
  · have := (g2 (V 0 10 - 1) (by omega) (by omega)).2.2.1.2
    rw [show V 0 10 - 1 + 1 = V 0 10 by omega, g1] at this
    exact this
theorem CI.c200 {f d e : Int} {V : Nat → Nat → Int} (h : CI f d e V) (hP : PG V) : V 0 10 ≤ 200 ∧ V 0 11 ≤ 200 ∧ V 0 5 ≤ 200 := by
  obtain ⟨p1, p2, p3, p4, p5, p6⟩ := hP
  obtain ⟨a1, a2, a3, a4, -⟩ := h
  have := pnt_nn (V 6) (V 0 11).toNat
  omega
theorem CI.slack {f d e d2 : Int} {V u : Nat → Nat → Int} (h : CI f d e V) (h5 : u 5 = V 5) (h6 : u 6 = V 6) (h10 : u 0 10 = V 0 10) (h11 : u 0 11 = V 0 11) (hd : 0 ≤ d2) (hp : d2 - d ≤ u 0 5 - V 0 5) : CI f d2 e u := by
  obtain ⟨a1, a2, a3, a4, a5, a6, a7, a8⟩ := h
  unfold CI pen
  rw [h5, h6, h10, h11]
  exact ⟨a1, a2, hd, by omega, a5, a6, a7, a8⟩
/-- the code's word there grows: what was right of a step stays right -/
theorem pcs.grow {h h2 : Int → Int} {w w2 : Nat → Int} {W W2 f C C2 z cz : Int} (k : pcs h w W f C z cz) (hz : z < C) (hC : C ≤ C2) (hh : ∀ y : Int, y ≤ C → h2 y = h y) (hw : ∀ j : Nat, (j : Int) < W → pjm (pdv (w j)) → prm (w j) = z → ∃ j2 : Nat, (j2 : Int) < W2 ∧ pjm (pdv (w2 j2)) ∧ prm (w2 j2) = z) : pcs h2 w2 W2 f C2 z cz := by
  obtain ⟨k1, k2, k3, k4⟩ := k
  refine ⟨k1, by rw [hh z (by omega)]; exact k2, by rw [hh (z + 1) (by omega)]; exact k3, ?_⟩
  rw [hh z (by omega), hh (z + 1) (by omega)]
  rcases k4 with q | q | q | ⟨q1, q2, q3, q4⟩ | q
  · exact Or.inl q
  · exact Or.inr (Or.inl q)
  · exact Or.inr (Or.inr (Or.inl q))
  · refine Or.inr (Or.inr (Or.inr (Or.inl ⟨q1, q2, q3, ?_⟩)))
    rcases q4 with ⟨j, j1, j2, j3⟩ | ⟨r1, r2, r3⟩
    · exact Or.inl (hw j j1 j2 j3)
    · exact Or.inr ⟨r1, by omega, by rw [hh _ (by omega)]; exact r3⟩
  · exact Or.inr (Or.inr (Or.inr (Or.inr q)))
theorem pen.grow {V u : Nat → Nat → Int} {f : Int} {j : Nat} (h : pen V f j) (h6 : u 6 j = V 6 j) (h10 : V 0 10 ≤ u 0 10) (h5 : ∀ k : Nat, (k : Int) < V 0 10 → u 5 k = V 5 k) (hf : 0 ≤ f) : pen u f j := by
  unfold pen at h ⊢
  rw [h6]
  rcases h with h | h | ⟨h1, h2, h3, h4⟩
  · exact Or.inl h
  · exact Or.inr (Or.inl h)
  · exact Or.inr (Or.inr ⟨h1, h2, by omega, by rw [h5 _ (by omega)]; exact h4⟩)
/-- a sum was read -/
theorem CI.sum {f d e : Int} {V u : Nat → Nat → Int} (h : CI f d e V) (he : 0 ≤ e) (hs : psl (u 5) (V 0 10) (u 0 10) 1) (h10 : V 0 10 ≤ u 0 10) (h5 : ∀ k : Nat, (k : Int) < V 0 10 → u 5 k = V 5 k) (h6 : ∀ k : Nat, (k : Int) < V 0 11 → u 6 k = V 6 k) (h11 : u 0 11 = V 0 11) (hp : u 0 10 - V 0 10 ≤ u 0 5 - V 0 5) : CI f d (e + 1) u := by
  have heb := h.eb
  obtain ⟨a1, a2, a3, a4, a5, a6, a7, g, g0, g1, g2⟩ := h
  obtain ⟨s, s0, s1, s2⟩ := hs
  refine ⟨a1, by omega, a3, ?_, by omega, fun h0 => by rw [h6 0 (by omega)]; exact a6 (by omega), fun j hj => (a7 j (by omega)).grow (h6 j (by omega)) h10 h5 a1, fun z => if z ≤ V 0 10 then g z else e + s z, ?_, ?_, fun z z1 z2 => ?_⟩
  · rw [h11, pnt_c (w := V 6) _ (fun j hj => h6 j (by omega))]; omega
  · show (if f ≤ V 0 10 then g f else e + s f) = 0
    rw [if_pos a2]; exact g0
  · show (if u 0 10 ≤ V 0 10 then g (u 0 10) else e + s (u 0 10)) = e + 1
    by_cases q : u 0 10 ≤ V 0 10
    · exfalso
      have : u 0 10 = V 0 10 := by omega
      rw [this, s0] at s1
      omega
    · rw [if_neg q, s1]
  · by_cases q : z < V 0 10
    · rw [h5 z.toNat (by omega)]
      exact (g2 z z1 q).grow q (by omega) (fun y hy => if_pos hy) (fun j j1 j2 j3 => ⟨j, by omega, by rw [h6 j (by omega)]; exact j2, by rw [h6 j (by omega)]; exact j3⟩)
    · have ez : (if z ≤ V 0 10 then g z else e + s z) = e + s z := by
        by_cases q2 : z ≤ V 0 10
        · have : z = V 0 10 := by omega
          rw [if_pos q2, this, g1, s0]; omega
        · rw [if_neg q2]
      have ez1 : (if z + 1 ≤ V 0 10 then g (z + 1) else e + s (z + 1)) = e + s (z + 1) := if_neg (by omega)
      obtain ⟨t1, t2, t3, t4, t5, t6⟩ := s2 z (by omega) z2
      show pcs (fun z => if z ≤ V 0 10 then g z else e + s z) _ _ _ _ _ _
      refine ⟨t3, ?_, ?_, ?_⟩
      · show 0 ≤ (if z ≤ V 0 10 then g z else e + s z) ∧ (if z ≤ V 0 10 then g z else e + s z) ≤ z - f
        rw [ez]; omega
      · show 0 ≤ (if z + 1 ≤ V 0 10 then g (z + 1) else e + s (z + 1)) ∧ (if z + 1 ≤ V 0 10 then g (z + 1) else e + s (z + 1)) ≤ z + 1 - f
        rw [ez1]; omega
      · dsimp only
        rw [ez, ez1]
        rcases t6 with q | q | q
        · exact Or.inl (by omega)
        · exact Or.inr (Or.inl (by omega))
        · exact Or.inr (Or.inr (Or.inr (Or.inr (by omega))))
/-- a word is noted behind: a NOT (the height stays) or what takes two and leaves one -/
theorem CI.note {f d e d2 e2 : Int} {V u : Nat → Nat → Int} {w : Int} (h : CI f d e V) (hw : 0 ≤ w ∧ ((w / 1048576 = 10 ∧ 1 ≤ e ∧ e2 = e) ∨ (2 ≤ w / 1048576 ∧ w / 1048576 ≤ 9 ∧ 2 ≤ e ∧ e2 = e - 1))) (h5 : ∀ k : Nat, u 5 k = if k = (V 0 10).toNat then w else V 5 k) (h6 : u 6 = V 6) (h10 : u 0 10 = V 0 10 + 1) (h11 : u 0 11 = V 0 11) (hd : 0 ≤ d2) (hp : d2 + 1 - d ≤ u 0 5 - V 0 5) : CI f d2 e2 u := by
  have heb := h.eb
  obtain ⟨a1, a2, a3, a4, a5, a6, a7, g, g0, g1, g2⟩ := h
  refine ⟨a1, by omega, hd, by rw [h6, h11]; omega, by omega, fun h0 => by rw [h6]; exact a6 (by omega), fun j hj => (a7 j (by omega)).grow (by rw [h6]) (by omega) (fun k hk => by rw [h5, if_neg (by omega)]) a1, fun z => if z = V 0 10 + 1 then e2 else g z, ?_, ?_, fun z z1 z2 => ?_⟩
  · show (if f = V 0 10 + 1 then e2 else g f) = 0
    rw [if_neg (by omega)]; exact g0
  · show (if u 0 10 = V 0 10 + 1 then e2 else g (u 0 10)) = e2
    rw [if_pos h10]
  · by_cases q : z < V 0 10
    · rw [h5 z.toNat, if_neg (by omega)]
      exact (g2 z z1 q).grow q (by omega) (fun y hy => if_neg (by omega)) (fun j j1 j2 j3 => ⟨j, by omega, by rw [h6]; exact j2, by rw [h6]; exact j3⟩)
    · have hz : z = V 0 10 := by omega
      subst hz
      rw [h5, if_pos rfl]
      have e1 : (if V 0 10 = V 0 10 + 1 then e2 else g (V 0 10)) = e := by rw [if_neg (by omega), g1]
      have e3 : (if V 0 10 + 1 = V 0 10 + 1 then e2 else g (V 0 10 + 1)) = e2 := if_pos rfl
      refine ⟨hw.1, ?_, ?_, ?_⟩
      · show 0 ≤ (if V 0 10 = V 0 10 + 1 then e2 else g (V 0 10)) ∧ (if V 0 10 = V 0 10 + 1 then e2 else g (V 0 10)) ≤ V 0 10 - f
        rw [e1]; omega
      · show 0 ≤ (if V 0 10 + 1 = V 0 10 + 1 then e2 else g (V 0 10 + 1)) ∧ (if V 0 10 + 1 = V 0 10 + 1 then e2 else g (V 0 10 + 1)) ≤ V 0 10 + 1 - f
        rw [e3]; omega
      · dsimp only
        rw [e1, e3]
        rcases hw.2 with q | q
        · exact Or.inr (Or.inr (Or.inl q))
        · exact Or.inr (Or.inr (Or.inr (Or.inr q)))
/-- a ( or a ! begins -/
theorem CI.opn {f d e : Int} {V u : Nat → Nat → Int} {x : Int} (h : CI f d e V) (hx : pdv x = 13 ∨ (pdv x = 10 ∧ 0 < V 0 11)) (h5 : u 5 = V 5) (h6 : ∀ k : Nat, u 6 k = if k = (V 0 11).toNat then x else V 6 k) (h10 : u 0 10 = V 0 10) (h11 : u 0 11 = V 0 11 + 1) (hp : u 0 5 = V 0 5 + 1) : CI f d e u := by
  obtain ⟨a1, a2, a3, a4, a5, a6, a7, g, g0, g1, g2⟩ := h
  have o6 : ∀ j : Nat, (j : Int) < V 0 11 → u 6 j = V 6 j := fun j hj => by rw [h6, if_neg (by omega)]
  refine ⟨a1, by omega, a3, ?_, by omega, fun h0 => ?_, fun j hj => ?_, g, g0, by rw [h10]; exact g1, fun z z1 z2 => ?_⟩
  · rw [h11, show (V 0 11 + 1).toNat = (V 0 11).toNat + 1 by omega, pnt, pnt_c (w := V 6) _ (fun j hj => o6 j (by omega)), h10, hp]
    split <;> omega
  · by_cases q : V 0 11 = 0
    · rw [h6, if_pos (by omega)]
      rcases hx with hx | hx
      · exact hx
      · omega
    · rw [o6 0 (by omega)]; exact a6 (by omega)
  · by_cases q : j = (V 0 11).toNat
    · unfold pen
      rw [h6, if_pos q]
      rcases hx with hx | hx
      · exact Or.inr (Or.inl hx)
      · exact Or.inl hx.1
    · exact (a7 j (by omega)).grow (o6 j (by omega)) (by omega) (fun k _ => by rw [h5]) a1
  · rw [h5]
    exact (g2 z z1 (by omega)).grow (by omega) (by omega) (fun y _ => rfl) (fun j j1 j2 j3 => ⟨j, by omega, by rw [o6 j j1]; exact j2, by rw [o6 j j1]; exact j3⟩)
/-- what waits on top is taken off: no jump -/
theorem CI.pop {f d e d2 : Int} {V u : Nat → Nat → Int} (h : CI f d e V) (h0 : 0 < V 0 11) (hx : ¬ pjm (pdv (V 6 (V 0 11 - 1).toNat))) (h5 : u 5 = V 5) (h6 : u 6 = V 6) (h10 : u 0 10 = V 0 10) (h11 : u 0 11 = V 0 11 - 1) (hd : 0 ≤ d2) (hp : d2 - d ≤ u 0 5 - V 0 5 ∨ (pdv (V 6 (V 0 11 - 1).toNat) = 10 ∧ d2 - 1 - d ≤ u 0 5 - V 0 5)) : CI f d2 e u := by
  obtain ⟨a1, a2, a3, a4, a5, a6, a7, g, g0, g1, g2⟩ := h
  refine ⟨a1, by omega, hd, ?_, by omega, fun h0 => by rw [h6]; exact a6 (by omega), fun j hj => (a7 j (by omega)).grow (by rw [h6]) (by omega) (fun k _ => by rw [h5]) a1, g, g0, by rw [h10]; exact g1, fun z z1 z2 => ?_⟩
  · have e1 : (V 0 11).toNat = (V 0 11 - 1).toNat + 1 := by omega
    rw [e1, pnt] at a4
    rw [h10, h6, h11]
    rcases hp with hp | ⟨hp, hq⟩
    · split at a4 <;> omega
    · rw [if_pos hp] at a4; omega
  · rw [h5]
    refine (g2 z z1 (by omega)).grow (by omega) (by omega) (fun y _ => rfl) (fun j j1 j2 j3 => ⟨j, ?_, by rw [h6]; exact j2, by rw [h6]; exact j3⟩)
    by_cases q : (j : Int) = V 0 11 - 1
    · have : j = (V 0 11 - 1).toNat := by omega
      rw [this] at j2
      exact absurd j2 hx
    · omega
end
