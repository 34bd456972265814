theorem dX9_empty_0 : decode cX9_empty 0 = .ok (.aload_n 0, 1) := by decide +kernel
theorem dX9_empty_1 : decode cX9_empty 1 = .ok (.iconst 0, 1) := by decide +kernel
theorem dX9_empty_2 : decode cX9_empty 2 = .ok (.putfield 23, 3) := by decide +kernel
theorem dX9_empty_5 : decode cX9_empty 5 = .ok (.aload_n 0, 1) := by decide +kernel
theorem dX9_empty_6 : decode cX9_empty 6 = .ok (.iconst 0, 1) := by decide +kernel
theorem dX9_empty_7 : decode cX9_empty 7 = .ok (.putfield 27, 3) := by decide +kernel
theorem dX9_empty_10 : decode cX9_empty 10 = .ok (.return_, 1) := by decide +kernel
set_option maxRecDepth 100000 in
def f_r_empty (k0 : Nat) (V : Nat → Nat → Int) (J : Nat → Nat → Int) (Rr : Nat → Nat → Nat) : (Nat → Nat → Int) → Prop :=
  rdb (V 72 4) fun z1 => rdb (up2 V k0 1 0) fun V2 => rdb (up2 V2 k0 5 0) fun V3 => rtn V3
set_option maxHeartbeats 8000000 in
set_option maxRecDepth 100000 in
theorem r_empty (l : Launch) (D : va_G) (cy : Nat → ClassId) (ad : Nat → Nat) (G : Nat → Nat → Int) (V J : Nat → Nat → Int) (Rr : Nat → Nat → Nat) (hI : XI G V) (hJ : VJ J) (hR : XR Rr) (k0 : Nat) (hk0 : isTx k0) : xMv l D (xTY cy) yX9_empty cX9_empty 1 none 0 0 0 0 [.ref (ad k0)] (XW cy ad V J Rr) (fun u : Nat → Nat → Int => XW cy ad u J Rr) (fun u : Nat → Nat → Int => XI G u ∧ u 72 4 = V 72 4 ∧ FB (fun i k : Nat => (k0 ≤ i ∧ i ≤ k0 + 4)) V u ∧ (f_r_empty k0 V J Rr) u) := by
  refine xMv.mk (lv0 := [(0, .ref (ad k0))]) (by decide) rfl (Nat.le_of_ble_eq_true rfl) (fun p e s m below meth c A C hr hnm hAe => ?_)
  have C : xC2 p s m _ meth c D A s.heap 1 cX9_empty RX9 (xTY cy) := C
  have hB : FB (fun i k : Nat => (k0 ≤ i ∧ i ≤ k0 + 4)) V V := FB.rf _ _
  have hF := Imp.of_eq (f_r_empty.eq_def k0 V J Rr)
  obtain ⟨z1, ez1, bz1⟩ := hI.rd 72 4 (x := -2147483648) (y := 2147483647) rfl
  replace hF := hF.to (rdb_e (z := z1) ez1)
  refine x_aload_n C.1 dX9_empty_0 0 rfl ?_
  refine x_iconst C.1 (n := 0) dX9_empty_1 ?_
  refine x_putI C (N := 129) (i := k0) (by omega) (xd_T hk0) vc_X9 wx_X9 1 (by decide) wf_X9_23 tyX9 tyX9_ok nmX9 rfl (tyX9_ok 1 (by decide)) rfl dX9_empty_2 rfl rfl ?_
  refine x_gV ?_
  intro V2 hV2
  have hI2 : XI G V2 := hI.up hV2 (rg_T hk0 1) (by decide) (pr_T hk0 _)
  have hB2 := hB.up hV2 (⟨Nat.le_refl _, by omega⟩)
  replace hF := hF.to (rdb_e (z := V2) hV2.symm)
  refine x_aload_n C.1 dX9_empty_5 0 rfl ?_
  refine x_iconst C.1 (n := 0) dX9_empty_6 ?_
  refine x_putI C (N := 129) (i := k0) (by omega) (xd_T hk0) vc_X9 wx_X9 5 (by decide) wf_X9_27 tyX9 tyX9_ok nmX9 rfl (tyX9_ok 5 (by decide)) rfl dX9_empty_7 rfl rfl ?_
  refine x_gV ?_
  intro V3 hV3
  have hI3 : XI G V3 := hI2.up hV3 (rg_T hk0 5) (by decide) (pr_T hk0 _)
  have hB3 := hB2.up hV3 (⟨Nat.le_refl _, by omega⟩)
  replace hF := hF.to (rdb_e (z := V3) hV3.symm)
  exact x_vret (S := (Nat → Nat → Int)) (post := (fun u : Nat → Nat → Int => XI G u ∧ u 72 4 = V 72 4 ∧ FB (fun i k : Nat => (k0 ≤ i ∧ i ≤ k0 + 4)) V u ∧ (f_r_empty k0 V J Rr) u)) (w1 := (fun u : Nat → Nat → Int => XW cy ad u J Rr)) C hr rfl dX9_empty_10 V3 rfl ⟨hI3, (((congrFun (congrFun hV3 72) 4).trans ((up2_n _ _ (Or.inl (by omega))).trans ((congrFun (congrFun hV2 72) 4).trans ((up2_n _ _ (Or.inl (by omega))).trans ez1)))).trans ez1.symm), hB3, hF _ rfl⟩
theorem dX9_put_0 : decode cX9_put 0 = .ok (.aload_n 0, 1) := by decide +kernel
theorem dX9_put_1 : decode cX9_put 1 = .ok (.getfield 23, 3) := by decide +kernel
theorem dX9_put_4 : decode cX9_put 4 = .ok (.sipush 200, 3) := by decide +kernel
theorem dX9_put_7 : decode cX9_put 7 = .ok (.if_icmp .ge 27, 3) := by decide +kernel
theorem dX9_put_10 : decode cX9_put 10 = .ok (.aload_n 0, 1) := by decide +kernel
theorem dX9_put_11 : decode cX9_put 11 = .ok (.getfield 9, 3) := by decide +kernel
theorem dX9_put_14 : decode cX9_put 14 = .ok (.aload_n 0, 1) := by decide +kernel
theorem dX9_put_15 : decode cX9_put 15 = .ok (.getfield 23, 3) := by decide +kernel
theorem dX9_put_18 : decode cX9_put 18 = .ok (.iload_n 1, 1) := by decide +kernel
theorem dX9_put_19 : decode cX9_put 19 = .ok (.iload_n 2, 1) := by decide +kernel
theorem dX9_put_20 : decode cX9_put 20 = .ok (.iconst 4, 1) := by decide +kernel
theorem dX9_put_21 : decode cX9_put 21 = .ok (.ishl, 1) := by decide +kernel
theorem dX9_put_22 : decode cX9_put 22 = .ok (.ior, 1) := by decide +kernel
theorem dX9_put_23 : decode cX9_put 23 = .ok (.iastore, 1) := by decide +kernel
theorem dX9_put_24 : decode cX9_put 24 = .ok (.aload_n 0, 1) := by decide +kernel
theorem dX9_put_25 : decode cX9_put 25 = .ok (.dup, 1) := by decide +kernel
theorem dX9_put_26 : decode cX9_put 26 = .ok (.getfield 23, 3) := by decide +kernel
theorem dX9_put_29 : decode cX9_put 29 = .ok (.iconst 1, 1) := by decide +kernel
theorem dX9_put_30 : decode cX9_put 30 = .ok (.iadd, 1) := by decide +kernel
theorem dX9_put_31 : decode cX9_put 31 = .ok (.putfield 23, 3) := by decide +kernel
theorem dX9_put_34 : decode cX9_put 34 = .ok (.return_, 1) := by decide +kernel
set_option maxRecDepth 100000 in
def f_r_put (k0 : Nat) (x1 : Int) (x2 : Int) (V : Nat → Nat → Int) (J : Nat → Nat → Int) (Rr : Nat → Nat → Nat) : (Nat → Nat → Int) → Prop :=
  rdb (V 72 4) fun z1 => rdb (V k0 1) fun z2 => fct (0 ≤ z2 ∧ z2 ≤ 200) <| (if 200 ≤ z2 then rtn V else rdb (iShl x2 4) fun z4 => rdb (iOr x1 z4) fun z5 => rdb (up2 V (k0 + 1) z2.toNat z5) fun V6 => rdb (up2 V6 k0 1 (z2 + 1)) fun V7 => rtn V7)
set_option maxHeartbeats 8000000 in
set_option maxRecDepth 100000 in
theorem r_put (l : Launch) (D : va_G) (cy : Nat → ClassId) (ad : Nat → Nat) (G : Nat → Nat → Int) (V J : Nat → Nat → Int) (Rr : Nat → Nat → Nat) (hI : TI G V) (hJ : VJ J) (hR : XR Rr) (k0 : Nat) (hk0 : isTx k0) (x1 : Int) (bx1 : -2147483648 ≤ x1 ∧ x1 ≤ 2147483647) (x2 : Int) (bx2 : -2147483648 ≤ x2 ∧ x2 ≤ 2147483647) : xMv l D (xTY cy) yX9_put cX9_put 3 none 0 0 0 0 [.ref (ad k0), vI x1, vI x2] (XW cy ad V J Rr) (fun u : Nat → Nat → Int => XW cy ad u J Rr) (fun u : Nat → Nat → Int => TI G u ∧ u 72 4 = V 72 4 ∧ FB (fun i k : Nat => (k0 ≤ i ∧ i ≤ k0 + 4)) V u ∧ (f_r_put k0 x1 x2 V J Rr) u) := by
  refine xMv.mk (lv0 := [(0, .ref (ad k0)), (1, vI x1), (2, vI x2)]) (by decide) rfl (Nat.le_of_ble_eq_true rfl) (fun p e s m below meth c A C hr hnm hAe => ?_)
  have C : xC2 p s m _ meth c D A s.heap 3 cX9_put RX9 (xTY cy) := C
  have hB : FB (fun i k : Nat => (k0 ≤ i ∧ i ≤ k0 + 4)) V V := FB.rf _ _
  have hF := Imp.of_eq (f_r_put.eq_def k0 x1 x2 V J Rr)
  obtain ⟨z1, ez1, bz1⟩ := hI.rd 72 4 (x := -2147483648) (y := 2147483647) rfl
  replace hF := hF.to (rdb_e (z := z1) ez1)
  refine x_aload_n C.1 dX9_put_0 0 rfl ?_
  obtain ⟨z2, ez2, bz2⟩ := hI.rd k0 1 (x := 0) (y := 200) (rg_T hk0 1)
  replace hF := hF.to (rdb_e (z := z2) ez2)
  replace hF := hF.fc bz2
  refine x_getI C (N := 129) (i := k0) (by omega) (xd_T hk0) vc_X9 wx_X9 1 (by decide) wf_X9_23 rfl dX9_put_1 (a := z2) ez2 ?_
  refine x_sipush C.1 (n := 200) dX9_put_4 ?_
  refine x_icmp_ge C.1 (tgt := 34) dX9_put_7 (by decide) (by omega) (by decide) (fun hc3 => ?_) (fun hc3 => ?_)
  · replace hF := hF.to (if_pos hc3)
    exact x_vret (S := (Nat → Nat → Int)) (post := (fun u : Nat → Nat → Int => TI G u ∧ u 72 4 = V 72 4 ∧ FB (fun i k : Nat => (k0 ≤ i ∧ i ≤ k0 + 4)) V u ∧ (f_r_put k0 x1 x2 V J Rr) u)) (w1 := (fun u : Nat → Nat → Int => XW cy ad u J Rr)) C hr rfl dX9_put_34 V rfl ⟨hI, (ez1.trans ez1.symm), hB, hF _ rfl⟩
  · replace hF := hF.to (if_neg hc3)
    refine x_aload_n C.1 dX9_put_10 0 rfl ?_
    refine x_getA C (N := 129) (i := k0) (by omega) (xd_T hk0) vc_X9 wx_X9 0 (by decide) wf_X9_9 (a := k0 + 1) rfl dX9_put_11 ?_
    refine x_aload_n C.1 dX9_put_14 0 rfl ?_
    refine x_getI C (N := 129) (i := k0) (by omega) (xd_T hk0) vc_X9 wx_X9 1 (by decide) wf_X9_23 rfl dX9_put_15 (a := z2) ez2 ?_
    refine x_iload_n C.1 dX9_put_18 1 rfl ?_
    refine x_iload_n C.1 dX9_put_19 2 rfl ?_
    refine x_iconst C.1 (n := 4) dX9_put_20 ?_
    obtain ⟨z4, hz4, bz4⟩ : ∃ z : Int, iShl x2 4 = z ∧ (-2147483648 ≤ z ∧ z ≤ 2147483647) := ⟨_, rfl, xi_r _⟩
    replace hF := hF.to (rdb_e (z := z4) hz4)
    refine x_ishl C.1 (v := z4) hz4 dX9_put_21 ?_
    obtain ⟨z5, hz5, bz5⟩ : ∃ z : Int, iOr x1 z4 = z ∧ (-2147483648 ≤ z ∧ z ≤ 2147483647) := ⟨_, rfl, xi_r _⟩
    replace hF := hF.to (rdb_e (z := z5) hz5)
    refine x_ior C.1 (v := z5) hz5 dX9_put_22 ?_
    refine x_iast C (N := 129) (i := k0 + 1) (q := z2) (a := z5) (by omega) (xd_T1 hk0) (by omega) (by decide) dX9_put_23 ?_
    refine x_gV ?_
    intro V6 hV6
    have hI6 : TI G V6 := hI.up hV6 (rg_T1 hk0 _) (by omega) (prT_T1 hk0 _)
    have hB6 := hB.up hV6 (⟨by omega, by omega⟩)
    replace hF := hF.to (rdb_e (z := V6) hV6.symm)
    refine x_aload_n C.1 dX9_put_24 0 rfl ?_
    refine x_dup C.1 dX9_put_25 rfl ?_
    refine x_getI C (N := 129) (i := k0) (by omega) (xd_T hk0) vc_X9 wx_X9 1 (by decide) wf_X9_23 rfl dX9_put_26 (a := z2) ((congrFun (congrFun hV6 k0) 1).trans ((up2_n _ _ (Or.inl (by omega))).trans ez2)) ?_
    refine x_iconst C.1 (n := 1) dX9_put_29 ?_
    refine x_iadd C.1 (v := z2 + 1) (by omega) dX9_put_30 ?_
    refine x_putI C (N := 129) (i := k0) (by omega) (xd_T hk0) vc_X9 wx_X9 1 (by decide) wf_X9_23 tyX9 tyX9_ok nmX9 rfl (tyX9_ok 1 (by decide)) rfl dX9_put_31 rfl rfl ?_
    refine x_gV ?_
    intro V7 hV7
    have hI7 : TI G V7 := hI6.up hV7 (rg_T hk0 1) (by omega) (prT_T hk0 rfl)
    have hB7 := hB6.up hV7 (⟨Nat.le_refl _, by omega⟩)
    replace hF := hF.to (rdb_e (z := V7) hV7.symm)
    exact x_vret (S := (Nat → Nat → Int)) (post := (fun u : Nat → Nat → Int => TI G u ∧ u 72 4 = V 72 4 ∧ FB (fun i k : Nat => (k0 ≤ i ∧ i ≤ k0 + 4)) V u ∧ (f_r_put k0 x1 x2 V J Rr) u)) (w1 := (fun u : Nat → Nat → Int => XW cy ad u J Rr)) C hr rfl dX9_put_34 V7 rfl ⟨hI7, (((congrFun (congrFun hV7 72) 4).trans ((up2_n _ _ (Or.inl (by omega))).trans ((congrFun (congrFun hV6 72) 4).trans ((up2_n _ _ (Or.inl (by omega))).trans ez1)))).trans ez1.symm), hB7, hF _ rfl⟩
theorem dX9_land_0 : decode cX9_land 0 = .ok (.iload_n 1, 1) := by decide +kernel
theorem dX9_land_1 : decode cX9_land 1 = .ok (.ifCond .lt 25, 3) := by decide +kernel
theorem dX9_land_4 : decode cX9_land 4 = .ok (.iload_n 1, 1) := by decide +kernel
theorem dX9_land_5 : decode cX9_land 5 = .ok (.sipush 200, 3) := by decide +kernel
theorem dX9_land_8 : decode cX9_land 8 = .ok (.if_icmp .ge 18, 3) := by decide +kernel
theorem dX9_land_11 : decode cX9_land 11 = .ok (.aload_n 0, 1) := by decide +kernel
theorem dX9_land_12 : decode cX9_land 12 = .ok (.getfield 9, 3) := by decide +kernel
theorem dX9_land_15 : decode cX9_land 15 = .ok (.iload_n 1, 1) := by decide +kernel
theorem dX9_land_16 : decode cX9_land 16 = .ok (.dup2, 1) := by decide +kernel
theorem dX9_land_17 : decode cX9_land 17 = .ok (.iaload, 1) := by decide +kernel
theorem dX9_land_18 : decode cX9_land 18 = .ok (.aload_n 0, 1) := by decide +kernel
theorem dX9_land_19 : decode cX9_land 19 = .ok (.getfield 23, 3) := by decide +kernel
theorem dX9_land_22 : decode cX9_land 22 = .ok (.iconst 4, 1) := by decide +kernel
theorem dX9_land_23 : decode cX9_land 23 = .ok (.ishl, 1) := by decide +kernel
theorem dX9_land_24 : decode cX9_land 24 = .ok (.ior, 1) := by decide +kernel
theorem dX9_land_25 : decode cX9_land 25 = .ok (.iastore, 1) := by decide +kernel
theorem dX9_land_26 : decode cX9_land 26 = .ok (.return_, 1) := by decide +kernel
set_option maxRecDepth 100000 in
def f_r_land (k0 : Nat) (x1 : Int) (V : Nat → Nat → Int) (J : Nat → Nat → Int) (Rr : Nat → Nat → Nat) : (Nat → Nat → Int) → Prop :=
  rdb (V 72 4) fun z1 => (if x1 < 0 then rtn V else (if 200 ≤ x1 then rtn V else rdb (V (k0 + 1) x1.toNat) fun z4 => rdb (V k0 1) fun z5 => fct (0 ≤ z5 ∧ z5 ≤ 200) <| rdb (iShl z5 4) fun z6 => rdb (iOr z4 z6) fun z7 => rdb (up2 V (k0 + 1) x1.toNat z7) fun V8 => rtn V8))
set_option maxHeartbeats 8000000 in
set_option maxRecDepth 100000 in
theorem r_land (l : Launch) (D : va_G) (cy : Nat → ClassId) (ad : Nat → Nat) (G : Nat → Nat → Int) (V J : Nat → Nat → Int) (Rr : Nat → Nat → Nat) (hI : TI G V) (hJ : VJ J) (hR : XR Rr) (k0 : Nat) (hk0 : isTx k0) (x1 : Int) (bx1 : -2147483648 ≤ x1 ∧ x1 ≤ 2147483647) : xMv l D (xTY cy) yX9_land cX9_land 2 none 0 0 0 0 [.ref (ad k0), vI x1] (XW cy ad V J Rr) (fun u : Nat → Nat → Int => XW cy ad u J Rr) (fun u : Nat → Nat → Int => TI G u ∧ u 72 4 = V 72 4 ∧ FB (fun i k : Nat => (k0 ≤ i ∧ i ≤ k0 + 4)) V u ∧ (f_r_land k0 x1 V J Rr) u) := by
  refine xMv.mk (lv0 := [(0, .ref (ad k0)), (1, vI x1)]) (by decide) rfl (Nat.le_of_ble_eq_true rfl) (fun p e s m below meth c A C hr hnm hAe => ?_)
  have C : xC2 p s m _ meth c D A s.heap 2 cX9_land RX9 (xTY cy) := C
  have hB : FB (fun i k : Nat => (k0 ≤ i ∧ i ≤ k0 + 4)) V V := FB.rf _ _
  have hF := Imp.of_eq (f_r_land.eq_def k0 x1 V J Rr)
  obtain ⟨z1, ez1, bz1⟩ := hI.rd 72 4 (x := -2147483648) (y := 2147483647) rfl
  replace hF := hF.to (rdb_e (z := z1) ez1)
  refine x_iload_n C.1 dX9_land_0 1 rfl ?_
  refine x_if_lt C.1 (tgt := 26) dX9_land_1 (by decide) (by omega) (fun hc2 => ?_) (fun hc2 => ?_)
  · replace hF := hF.to (if_pos hc2)
    exact x_vret (S := (Nat → Nat → Int)) (post := (fun u : Nat → Nat → Int => TI G u ∧ u 72 4 = V 72 4 ∧ FB (fun i k : Nat => (k0 ≤ i ∧ i ≤ k0 + 4)) V u ∧ (f_r_land k0 x1 V J Rr) u)) (w1 := (fun u : Nat → Nat → Int => XW cy ad u J Rr)) C hr rfl dX9_land_26 V rfl ⟨hI, (ez1.trans ez1.symm), hB, hF _ rfl⟩
  · replace hF := hF.to (if_neg hc2)
    refine x_iload_n C.1 dX9_land_4 1 rfl ?_
    refine x_sipush C.1 (n := 200) dX9_land_5 ?_
    refine x_icmp_ge C.1 (tgt := 26) dX9_land_8 (by decide) (by omega) (by decide) (fun hc3 => ?_) (fun hc3 => ?_)
    · replace hF := hF.to (if_pos hc3)
      exact x_vret (S := (Nat → Nat → Int)) (post := (fun u : Nat → Nat → Int => TI G u ∧ u 72 4 = V 72 4 ∧ FB (fun i k : Nat => (k0 ≤ i ∧ i ≤ k0 + 4)) V u ∧ (f_r_land k0 x1 V J Rr) u)) (w1 := (fun u : Nat → Nat → Int => XW cy ad u J Rr)) C hr rfl dX9_land_26 V rfl ⟨hI, (ez1.trans ez1.symm), hB, hF _ rfl⟩
    · replace hF := hF.to (if_neg hc3)
      refine x_aload_n C.1 dX9_land_11 0 rfl ?_
      refine x_getA C (N := 129) (i := k0) (by omega) (xd_T hk0) vc_X9 wx_X9 0 (by decide) wf_X9_9 (a := k0 + 1) rfl dX9_land_12 ?_
      refine x_iload_n C.1 dX9_land_15 1 rfl ?_
      refine x_dup2 C.1 dX9_land_16 rfl rfl ?_
      obtain ⟨z4, ez4, bz4⟩ := hI.rd (k0 + 1) x1.toNat (x := -2147483648) (y := 2147483647) (rg_T1 hk0 _)
      replace hF := hF.to (rdb_e (z := z4) ez4)
      refine x_iald C (N := 129) (i := k0 + 1) (q := x1) (by omega) (xd_T1 hk0) (by omega) (by decide) dX9_land_17 (a := z4) ez4 ?_
      refine x_aload_n C.1 dX9_land_18 0 rfl ?_
      obtain ⟨z5, ez5, bz5⟩ := hI.rd k0 1 (x := 0) (y := 200) (rg_T hk0 1)
      replace hF := hF.to (rdb_e (z := z5) ez5)
      replace hF := hF.fc bz5
      refine x_getI C (N := 129) (i := k0) (by omega) (xd_T hk0) vc_X9 wx_X9 1 (by decide) wf_X9_23 rfl dX9_land_19 (a := z5) ez5 ?_
      refine x_iconst C.1 (n := 4) dX9_land_22 ?_
      obtain ⟨z6, hz6, bz6⟩ : ∃ z : Int, iShl z5 4 = z ∧ (-2147483648 ≤ z ∧ z ≤ 2147483647) := ⟨_, rfl, xi_r _⟩
      replace hF := hF.to (rdb_e (z := z6) hz6)
      refine x_ishl C.1 (v := z6) hz6 dX9_land_23 ?_
      obtain ⟨z7, hz7, bz7⟩ : ∃ z : Int, iOr z4 z6 = z ∧ (-2147483648 ≤ z ∧ z ≤ 2147483647) := ⟨_, rfl, xi_r _⟩
      replace hF := hF.to (rdb_e (z := z7) hz7)
      refine x_ior C.1 (v := z7) hz7 dX9_land_24 ?_
      refine x_iast C (N := 129) (i := k0 + 1) (q := x1) (a := z7) (by omega) (xd_T1 hk0) (by omega) (by decide) dX9_land_25 ?_
      refine x_gV ?_
      intro V8 hV8
      have hI8 : TI G V8 := hI.up hV8 (rg_T1 hk0 _) (by omega) (prT_T1 hk0 _)
      have hB8 := hB.up hV8 (⟨by omega, by omega⟩)
      replace hF := hF.to (rdb_e (z := V8) hV8.symm)
      exact x_vret (S := (Nat → Nat → Int)) (post := (fun u : Nat → Nat → Int => TI G u ∧ u 72 4 = V 72 4 ∧ FB (fun i k : Nat => (k0 ≤ i ∧ i ≤ k0 + 4)) V u ∧ (f_r_land k0 x1 V J Rr) u)) (w1 := (fun u : Nat → Nat → Int => XW cy ad u J Rr)) C hr rfl dX9_land_26 V8 rfl ⟨hI8, (((congrFun (congrFun hV8 72) 4).trans ((up2_n _ _ (Or.inl (by omega))).trans ez1)).trans ez1.symm), hB8, hF _ rfl⟩
theorem hd_yX9_land : yX9_land.cls ≠ "java/lang/invoke/MethodHandle" ∧ yX9_land.cls ≠ "java/lang/invoke/VarHandle" ∧ (parseMethodDescriptor yX9_land.desc).map (fun d => d.parameters.length) = some 1 := by decide +kernel
theorem hd_yX9_put : yX9_put.cls ≠ "java/lang/invoke/MethodHandle" ∧ yX9_put.cls ≠ "java/lang/invoke/VarHandle" ∧ (parseMethodDescriptor yX9_put.desc).map (fun d => d.parameters.length) = some 2 := by decide +kernel
theorem dX9_jump_0 : decode cX9_jump 0 = .ok (.aload_n 0, 1) := by decide +kernel
theorem dX9_jump_1 : decode cX9_jump 1 = .ok (.iload_n 1, 1) := by decide +kernel
theorem dX9_jump_2 : decode cX9_jump 2 = .ok (.invokevirtual 30, 3) := by decide +kernel
theorem dX9_jump_5 : decode cX9_jump 5 = .ok (.aload_n 0, 1) := by decide +kernel
theorem dX9_jump_6 : decode cX9_jump 6 = .ok (.iload_n 2, 1) := by decide +kernel
theorem dX9_jump_7 : decode cX9_jump 7 = .ok (.iconst 0, 1) := by decide +kernel
theorem dX9_jump_8 : decode cX9_jump 8 = .ok (.invokevirtual 34, 3) := by decide +kernel
theorem dX9_jump_11 : decode cX9_jump 11 = .ok (.aload_n 0, 1) := by decide +kernel
theorem dX9_jump_12 : decode cX9_jump 12 = .ok (.getfield 23, 3) := by decide +kernel
theorem dX9_jump_15 : decode cX9_jump 15 = .ok (.iconst 1, 1) := by decide +kernel
theorem dX9_jump_16 : decode cX9_jump 16 = .ok (.isub, 1) := by decide +kernel
theorem dX9_jump_17 : decode cX9_jump 17 = .ok (.ireturn, 1) := by decide +kernel
set_option maxRecDepth 100000 in
def f_r_jump (k0 : Nat) (x1 : Int) (x2 : Int) (V : Nat → Nat → Int) (J : Nat → Nat → Int) (Rr : Nat → Nat → Nat) : (Int × (Nat → Nat → Int)) → Prop :=
  rdb (V 72 4) fun z1 => calUX (fun i k : Nat => (k0 ≤ i ∧ i ≤ k0 + 4)) V (f_r_land k0 x1 V J Rr) fun V2 => calUX (fun i k : Nat => (k0 ≤ i ∧ i ≤ k0 + 4)) V2 (f_r_put k0 x2 0 V2 J Rr) fun V3 => rdb (V3 k0 1) fun z4 => fct (0 ≤ z4 ∧ z4 ≤ 200) <| rtn (z4 - 1, V3)
set_option maxHeartbeats 8000000 in
set_option maxRecDepth 100000 in
theorem r_jump (l : Launch) (D : va_G) (cy : Nat → ClassId) (ad : Nat → Nat) (G : Nat → Nat → Int) (V J : Nat → Nat → Int) (Rr : Nat → Nat → Nat) (hI : TI G V) (hJ : VJ J) (hR : XR Rr) (k0 : Nat) (hk0 : isTx k0) (x1 : Int) (bx1 : -2147483648 ≤ x1 ∧ x1 ≤ 2147483647) (x2 : Int) (bx2 : -2147483648 ≤ x2 ∧ x2 ≤ 2147483647) : xMi l D (xTY cy) yX9_jump cX9_jump 3 (some .int) 1 22 0 0 [.ref (ad k0), vI x1, vI x2] (XW cy ad V J Rr) (fun u : Nat → Nat → Int => XW cy ad u J Rr) (fun a (u : Nat → Nat → Int) => TI G u ∧ u 72 4 = V 72 4 ∧ FB (fun i k : Nat => (k0 ≤ i ∧ i ≤ k0 + 4)) V u ∧ (f_r_jump k0 x1 x2 V J Rr) (a, u)) := by
  refine xMi.mk (lv0 := [(0, .ref (ad k0)), (1, vI x1), (2, vI x2)]) (by decide) rfl (Nat.le_of_ble_eq_true rfl) (fun p e s m below meth c A C hr hnm hAe => ?_)
  have C : xC2 p s m _ meth c D A s.heap 3 cX9_jump RX9 (xTY cy) := C
  have hB : FB (fun i k : Nat => (k0 ≤ i ∧ i ≤ k0 + 4)) V V := FB.rf _ _
  have hF := Imp.of_eq (f_r_jump.eq_def k0 x1 x2 V J Rr)
  obtain ⟨z1, ez1, bz1⟩ := hI.rd 72 4 (x := -2147483648) (y := 2147483647) rfl
  replace hF := hF.to (rdb_e (z := z1) ez1)
  refine x_aload_n C.1 dX9_jump_0 0 rfl ?_
  refine x_iload_n C.1 dX9_jump_1 1 rfl ?_
  refine x_callVv C (As := [vI x1]) (rest := []) k0 (xw_at (N := 129) (i := k0) (by omega) (xd_T hk0)) vc_X9 (r_land l D cy ad G V J Rr hI hJ hR k0 hk0 x1 ⟨by omega, by omega⟩) (l1 := []) (l2 := []) (List.append_nil _).symm (w2 := fun u : Nat → Nat → Int => XW cy ad u J Rr) (fun _ => List.append_nil _) rfl wm_yX9_land wn_X9 wl_X9_30 wi_yX9_land we_yX9_land hd_yX9_land rfl ⟨Nat.le_of_ble_eq_true rfl, Nat.le_of_ble_eq_true rfl⟩ (Nat.le_of_ble_eq_true rfl) ⟨Nat.le_of_ble_eq_true rfl, Nat.le_of_ble_eq_true rfl⟩ dX9_jump_2 (fun V2 h2 => ?_)
  obtain ⟨hI2, hx2_0, hBc2, hFc2⟩ := h2
  replace hF := calUX_i hF hFc2 hBc2
  have hB2 := hB.tr hBc2 (fun i k h => (⟨by omega, by omega⟩))
  refine x_aload_n C.1 dX9_jump_5 0 rfl ?_
  refine x_iload_n C.1 dX9_jump_6 2 rfl ?_
  refine x_iconst C.1 (n := 0) dX9_jump_7 ?_
  refine x_callVv C (As := [vI x2, vI 0]) (rest := []) k0 (xw_at (N := 129) (i := k0) (by omega) (xd_T hk0)) vc_X9 (r_put l D cy ad G V2 J Rr hI2 hJ hR k0 hk0 x2 ⟨by omega, by omega⟩ 0 ⟨by decide, by decide⟩) (l1 := []) (l2 := []) (List.append_nil _).symm (w2 := fun u : Nat → Nat → Int => XW cy ad u J Rr) (fun _ => List.append_nil _) rfl wm_yX9_put wn_X9 wl_X9_34 wi_yX9_put we_yX9_put hd_yX9_put rfl ⟨Nat.le_of_ble_eq_true rfl, Nat.le_of_ble_eq_true rfl⟩ (Nat.le_of_ble_eq_true rfl) ⟨Nat.le_of_ble_eq_true rfl, Nat.le_of_ble_eq_true rfl⟩ dX9_jump_8 (fun V3 h3 => ?_)
  obtain ⟨hI3, hx3_0, hBc3, hFc3⟩ := h3
  replace hF := calUX_i hF hFc3 hBc3
  have hB3 := hB2.tr hBc3 (fun i k h => (⟨by omega, by omega⟩))
  refine x_aload_n C.1 dX9_jump_11 0 rfl ?_
  obtain ⟨z4, ez4, bz4⟩ := hI3.rd k0 1 (x := 0) (y := 200) (rg_T hk0 1)
  replace hF := hF.to (rdb_e (z := z4) ez4)
  replace hF := hF.fc bz4
  refine x_getI C (N := 129) (i := k0) (by omega) (xd_T hk0) vc_X9 wx_X9 1 (by decide) wf_X9_23 rfl dX9_jump_12 (a := z4) ez4 ?_
  refine x_iconst C.1 (n := 1) dX9_jump_15 ?_
  refine x_isub C.1 (v := z4 - 1) (by omega) dX9_jump_16 ?_
  exact x_iret (S := (Nat → Nat → Int)) (post := (fun a (u : Nat → Nat → Int) => TI G u ∧ u 72 4 = V 72 4 ∧ FB (fun i k : Nat => (k0 ≤ i ∧ i ≤ k0 + 4)) V u ∧ (f_r_jump k0 x1 x2 V J Rr) (a, u))) (w1 := (fun u : Nat → Nat → Int => XW cy ad u J Rr)) (a := z4 - 1) C hr rfl dX9_jump_17 (by omega) V3 rfl ⟨hI3, ((hx3_0.trans (hx2_0.trans ez1)).trans ez1.symm), hB3, hF _ rfl⟩
theorem dX9_begin_0 : decode cX9_begin 0 = .ok (.aload_n 0, 1) := by decide +kernel
theorem dX9_begin_1 : decode cX9_begin 1 = .ok (.getfield 13, 3) := by decide +kernel
theorem dX9_begin_4 : decode cX9_begin 4 = .ok (.aload_n 0, 1) := by decide +kernel
theorem dX9_begin_5 : decode cX9_begin 5 = .ok (.getfield 27, 3) := by decide +kernel
theorem dX9_begin_8 : decode cX9_begin 8 = .ok (.iload_n 1, 1) := by decide +kernel
theorem dX9_begin_9 : decode cX9_begin 9 = .ok (.castore, 1) := by decide +kernel
theorem dX9_begin_10 : decode cX9_begin 10 = .ok (.aload_n 0, 1) := by decide +kernel
theorem dX9_begin_11 : decode cX9_begin 11 = .ok (.getfield 17, 3) := by decide +kernel
theorem dX9_begin_14 : decode cX9_begin 14 = .ok (.aload_n 0, 1) := by decide +kernel
theorem dX9_begin_15 : decode cX9_begin 15 = .ok (.getfield 27, 3) := by decide +kernel
theorem dX9_begin_18 : decode cX9_begin 18 = .ok (.aload_n 0, 1) := by decide +kernel
theorem dX9_begin_19 : decode cX9_begin 19 = .ok (.getfield 23, 3) := by decide +kernel
theorem dX9_begin_22 : decode cX9_begin 22 = .ok (.iastore, 1) := by decide +kernel
theorem dX9_begin_23 : decode cX9_begin 23 = .ok (.return_, 1) := by decide +kernel
set_option maxRecDepth 100000 in
def f_r_begin (k0 : Nat) (x1 : Int) (V : Nat → Nat → Int) (J : Nat → Nat → Int) (Rr : Nat → Nat → Nat) : (Nat → Nat → Int) → Prop :=
  rdb (V 72 4) fun z1 => rdb (V k0 5) fun z2 => fct (0 ≤ z2 ∧ z2 ≤ 14) <| rdb (up2 V (k0 + 2) z2.toNat x1) fun V3 => rdb (V3 k0 1) fun z4 => fct (0 ≤ z4 ∧ z4 ≤ 200) <| rdb (up2 V3 (k0 + 3) z2.toNat z4) fun V5 => rtn V5
set_option maxHeartbeats 8000000 in
set_option maxRecDepth 100000 in
theorem r_begin (l : Launch) (D : va_G) (cy : Nat → ClassId) (ad : Nat → Nat) (G : Nat → Nat → Int) (V J : Nat → Nat → Int) (Rr : Nat → Nat → Nat) (hI : TI G V) (hJ : VJ J) (hR : XR Rr) (k0 : Nat) (hk0 : isTx k0) (x1 : Int) (bx1 : 0 ≤ x1 ∧ x1 ≤ 65535) (hcl : V k0 5 ≤ 13) : xMv l D (xTY cy) yX9_begin cX9_begin 2 none 0 0 0 0 [.ref (ad k0), vI x1] (XW cy ad V J Rr) (fun u : Nat → Nat → Int => XW cy ad u J Rr) (fun u : Nat → Nat → Int => TI G u ∧ u 72 4 = V 72 4 ∧ FB (fun i k : Nat => (k0 ≤ i ∧ i ≤ k0 + 4)) V u ∧ (f_r_begin k0 x1 V J Rr) u) := by
  refine xMv.mk (lv0 := [(0, .ref (ad k0)), (1, vI x1)]) (by decide) rfl (Nat.le_of_ble_eq_true rfl) (fun p e s m below meth c A C hr hnm hAe => ?_)
  have C : xC2 p s m _ meth c D A s.heap 2 cX9_begin RX9 (xTY cy) := C
  have hB : FB (fun i k : Nat => (k0 ≤ i ∧ i ≤ k0 + 4)) V V := FB.rf _ _
  have hF := Imp.of_eq (f_r_begin.eq_def k0 x1 V J Rr)
  obtain ⟨z1, ez1, bz1⟩ := hI.rd 72 4 (x := -2147483648) (y := 2147483647) rfl
  replace hF := hF.to (rdb_e (z := z1) ez1)
  obtain ⟨z2, ez2, bz2⟩ := hI.rd k0 5 (x := 0) (y := 14) (rg_T hk0 5)
  replace hF := hF.to (rdb_e (z := z2) ez2)
  replace hF := hF.fc bz2
  rw [ez2] at hcl
  have hcl2 : 0 ≤ z2 ∧ z2 ≤ 13 := by omega
  refine x_aload_n C.1 dX9_begin_0 0 rfl ?_
  refine x_getA C (N := 129) (i := k0) (by omega) (xd_T hk0) vc_X9 wx_X9 2 (by decide) wf_X9_13 (a := k0 + 2) rfl dX9_begin_1 ?_
  refine x_aload_n C.1 dX9_begin_4 0 rfl ?_
  refine x_getI C (N := 129) (i := k0) (by omega) (xd_T hk0) vc_X9 wx_X9 5 (by decide) wf_X9_27 rfl dX9_begin_5 (a := z2) ez2 ?_
  refine x_iload_n C.1 dX9_begin_8 1 rfl ?_
  refine x_cast C (N := 129) (i := k0 + 2) (q := z2) (a := x1) (by omega) (xd_T2 hk0) (by omega) (by decide) (iC_nar (by omega)) dX9_begin_9 ?_
  refine x_gV ?_
  intro V3 hV3
  have hI3 : TI G V3 := hI.up hV3 (rg_T2 hk0 _) (by omega) (prT_T2 hk0 _)
  have hB3 := hB.up hV3 (⟨by omega, by omega⟩)
  replace hF := hF.to (rdb_e (z := V3) hV3.symm)
  refine x_aload_n C.1 dX9_begin_10 0 rfl ?_
  refine x_getA C (N := 129) (i := k0) (by omega) (xd_T hk0) vc_X9 wx_X9 3 (by decide) wf_X9_17 (a := k0 + 3) rfl dX9_begin_11 ?_
  refine x_aload_n C.1 dX9_begin_14 0 rfl ?_
  refine x_getI C (N := 129) (i := k0) (by omega) (xd_T hk0) vc_X9 wx_X9 5 (by decide) wf_X9_27 rfl dX9_begin_15 (a := z2) ((congrFun (congrFun hV3 k0) 5).trans ((up2_n _ _ (Or.inl (by omega))).trans ez2)) ?_
  refine x_aload_n C.1 dX9_begin_18 0 rfl ?_
  obtain ⟨z4, ez4, bz4⟩ := hI3.rd k0 1 (x := 0) (y := 200) (rg_T hk0 1)
  replace hF := hF.to (rdb_e (z := z4) ez4)
  replace hF := hF.fc bz4
  refine x_getI C (N := 129) (i := k0) (by omega) (xd_T hk0) vc_X9 wx_X9 1 (by decide) wf_X9_23 rfl dX9_begin_19 (a := z4) ez4 ?_
  refine x_iast C (N := 129) (i := k0 + 3) (q := z2) (a := z4) (by omega) (xd_T3 hk0) (by omega) (by decide) dX9_begin_22 ?_
  refine x_gV ?_
  intro V5 hV5
  have hI5 : TI G V5 := hI3.up hV5 (rg_T3 hk0 _) (by omega) (prT_T3 hk0 _)
  have hB5 := hB3.up hV5 (⟨by omega, by omega⟩)
  replace hF := hF.to (rdb_e (z := V5) hV5.symm)
  exact x_vret (S := (Nat → Nat → Int)) (post := (fun u : Nat → Nat → Int => TI G u ∧ u 72 4 = V 72 4 ∧ FB (fun i k : Nat => (k0 ≤ i ∧ i ≤ k0 + 4)) V u ∧ (f_r_begin k0 x1 V J Rr) u)) (w1 := (fun u : Nat → Nat → Int => XW cy ad u J Rr)) C hr rfl dX9_begin_23 V5 rfl ⟨hI5, (((congrFun (congrFun hV5 72) 4).trans ((up2_n _ _ (Or.inl (by omega))).trans ((congrFun (congrFun hV3 72) 4).trans ((up2_n _ _ (Or.inl (by omega))).trans ez1)))).trans ez1.symm), hB5, hF _ rfl⟩
theorem dX9_beginWhen_0 : decode cX9_beginWhen 0 = .ok (.aload_n 0, 1) := by decide +kernel
theorem dX9_beginWhen_1 : decode cX9_beginWhen 1 = .ok (.getfield 20, 3) := by decide +kernel
theorem dX9_beginWhen_4 : decode cX9_beginWhen 4 = .ok (.aload_n 0, 1) := by decide +kernel
theorem dX9_beginWhen_5 : decode cX9_beginWhen 5 = .ok (.getfield 27, 3) := by decide +kernel
theorem dX9_beginWhen_8 : decode cX9_beginWhen 8 = .ok (.aload_n 0, 1) := by decide +kernel
theorem dX9_beginWhen_9 : decode cX9_beginWhen 9 = .ok (.getfield 23, 3) := by decide +kernel
theorem dX9_beginWhen_12 : decode cX9_beginWhen 12 = .ok (.iastore, 1) := by decide +kernel
theorem dX9_beginWhen_13 : decode cX9_beginWhen 13 = .ok (.return_, 1) := by decide +kernel
set_option maxRecDepth 100000 in
def f_r_beginWhen (k0 : Nat) (V : Nat → Nat → Int) (J : Nat → Nat → Int) (Rr : Nat → Nat → Nat) : (Nat → Nat → Int) → Prop :=
  rdb (V 72 4) fun z1 => rdb (V k0 5) fun z2 => fct (0 ≤ z2 ∧ z2 ≤ 14) <| rdb (V k0 1) fun z3 => fct (0 ≤ z3 ∧ z3 ≤ 200) <| rdb (up2 V (k0 + 4) z2.toNat z3) fun V4 => rtn V4
set_option maxHeartbeats 8000000 in
set_option maxRecDepth 100000 in
theorem r_beginWhen (l : Launch) (D : va_G) (cy : Nat → ClassId) (ad : Nat → Nat) (G : Nat → Nat → Int) (V J : Nat → Nat → Int) (Rr : Nat → Nat → Nat) (hI : TI G V) (hJ : VJ J) (hR : XR Rr) (k0 : Nat) (hk0 : isTx k0) (hcl : V k0 5 ≤ 13) : xMv l D (xTY cy) yX9_beginWhen cX9_beginWhen 1 none 0 0 0 0 [.ref (ad k0)] (XW cy ad V J Rr) (fun u : Nat → Nat → Int => XW cy ad u J Rr) (fun u : Nat → Nat → Int => TI G u ∧ u 72 4 = V 72 4 ∧ FB (fun i k : Nat => (k0 ≤ i ∧ i ≤ k0 + 4)) V u ∧ (f_r_beginWhen k0 V J Rr) u) := by
  refine xMv.mk (lv0 := [(0, .ref (ad k0))]) (by decide) rfl (Nat.le_of_ble_eq_true rfl) (fun p e s m below meth c A C hr hnm hAe => ?_)
  have C : xC2 p s m _ meth c D A s.heap 1 cX9_beginWhen RX9 (xTY cy) := C
  have hB : FB (fun i k : Nat => (k0 ≤ i ∧ i ≤ k0 + 4)) V V := FB.rf _ _
  have hF := Imp.of_eq (f_r_beginWhen.eq_def k0 V J Rr)
  obtain ⟨z1, ez1, bz1⟩ := hI.rd 72 4 (x := -2147483648) (y := 2147483647) rfl
  replace hF := hF.to (rdb_e (z := z1) ez1)
  obtain ⟨z2, ez2, bz2⟩ := hI.rd k0 5 (x := 0) (y := 14) (rg_T hk0 5)
  replace hF := hF.to (rdb_e (z := z2) ez2)
  replace hF := hF.fc bz2
  rw [ez2] at hcl
  have hcl2 : 0 ≤ z2 ∧ z2 ≤ 13 := by omega
  refine x_aload_n C.1 dX9_beginWhen_0 0 rfl ?_
  refine x_getA C (N := 129) (i := k0) (by omega) (xd_T hk0) vc_X9 wx_X9 4 (by decide) wf_X9_20 (a := k0 + 4) rfl dX9_beginWhen_1 ?_
  refine x_aload_n C.1 dX9_beginWhen_4 0 rfl ?_
  refine x_getI C (N := 129) (i := k0) (by omega) (xd_T hk0) vc_X9 wx_X9 5 (by decide) wf_X9_27 rfl dX9_beginWhen_5 (a := z2) ez2 ?_
  refine x_aload_n C.1 dX9_beginWhen_8 0 rfl ?_
  obtain ⟨z3, ez3, bz3⟩ := hI.rd k0 1 (x := 0) (y := 200) (rg_T hk0 1)
  replace hF := hF.to (rdb_e (z := z3) ez3)
  replace hF := hF.fc bz3
  refine x_getI C (N := 129) (i := k0) (by omega) (xd_T hk0) vc_X9 wx_X9 1 (by decide) wf_X9_23 rfl dX9_beginWhen_9 (a := z3) ez3 ?_
  refine x_iast C (N := 129) (i := k0 + 4) (q := z2) (a := z3) (by omega) (xd_T4 hk0) (by omega) (by decide) dX9_beginWhen_12 ?_
  refine x_gV ?_
  intro V4 hV4
  have hI4 : TI G V4 := hI.up hV4 (rg_T4 hk0 _) (by omega) (prT_T4 hk0 _)
  have hB4 := hB.up hV4 (⟨by omega, by omega⟩)
  replace hF := hF.to (rdb_e (z := V4) hV4.symm)
  exact x_vret (S := (Nat → Nat → Int)) (post := (fun u : Nat → Nat → Int => TI G u ∧ u 72 4 = V 72 4 ∧ FB (fun i k : Nat => (k0 ≤ i ∧ i ≤ k0 + 4)) V u ∧ (f_r_beginWhen k0 V J Rr) u)) (w1 := (fun u : Nat → Nat → Int => XW cy ad u J Rr)) C hr rfl dX9_beginWhen_13 V4 rfl ⟨hI4, (((congrFun (congrFun hV4 72) 4).trans ((up2_n _ _ (Or.inl (by omega))).trans ez1)).trans ez1.symm), hB4, hF _ rfl⟩
theorem dX9_end_0 : decode cX9_end 0 = .ok (.aload_n 0, 1) := by decide +kernel
theorem dX9_end_1 : decode cX9_end 1 = .ok (.dup, 1) := by decide +kernel
theorem dX9_end_2 : decode cX9_end 2 = .ok (.getfield 27, 3) := by decide +kernel
theorem dX9_end_5 : decode cX9_end 5 = .ok (.iconst 1, 1) := by decide +kernel
theorem dX9_end_6 : decode cX9_end 6 = .ok (.iadd, 1) := by decide +kernel
theorem dX9_end_7 : decode cX9_end 7 = .ok (.putfield 27, 3) := by decide +kernel
theorem dX9_end_10 : decode cX9_end 10 = .ok (.aload_n 0, 1) := by decide +kernel
theorem dX9_end_11 : decode cX9_end 11 = .ok (.getfield 17, 3) := by decide +kernel
theorem dX9_end_14 : decode cX9_end 14 = .ok (.aload_n 0, 1) := by decide +kernel
theorem dX9_end_15 : decode cX9_end 15 = .ok (.getfield 27, 3) := by decide +kernel
theorem dX9_end_18 : decode cX9_end 18 = .ok (.aload_n 0, 1) := by decide +kernel
theorem dX9_end_19 : decode cX9_end 19 = .ok (.getfield 23, 3) := by decide +kernel
theorem dX9_end_22 : decode cX9_end 22 = .ok (.iastore, 1) := by decide +kernel
theorem dX9_end_23 : decode cX9_end 23 = .ok (.return_, 1) := by decide +kernel
set_option maxRecDepth 100000 in
def f_r_end (k0 : Nat) (V : Nat → Nat → Int) (J : Nat → Nat → Int) (Rr : Nat → Nat → Nat) : (Nat → Nat → Int) → Prop :=
  rdb (V 72 4) fun z1 => rdb (V k0 5) fun z2 => fct (0 ≤ z2 ∧ z2 ≤ 14) <| rdb (up2 V k0 5 (z2 + 1)) fun V3 => rdb (V3 k0 1) fun z4 => fct (0 ≤ z4 ∧ z4 ≤ 200) <| rdb (up2 V3 (k0 + 3) ((z2 + 1).toNat) z4) fun V5 => rtn V5
set_option maxHeartbeats 8000000 in
set_option maxRecDepth 100000 in
theorem r_end (l : Launch) (D : va_G) (cy : Nat → ClassId) (ad : Nat → Nat) (G : Nat → Nat → Int) (V J : Nat → Nat → Int) (Rr : Nat → Nat → Nat) (hI : XI G V) (hJ : VJ J) (hR : XR Rr) (k0 : Nat) (hk0 : isTx k0) (hcl : V k0 5 ≤ 13) : xMv l D (xTY cy) yX9_end cX9_end 1 none 0 0 0 0 [.ref (ad k0)] (XW cy ad V J Rr) (fun u : Nat → Nat → Int => XW cy ad u J Rr) (fun u : Nat → Nat → Int => XI G u ∧ u 72 4 = V 72 4 ∧ FB (fun i k : Nat => (k0 ≤ i ∧ i ≤ k0 + 4)) V u ∧ (f_r_end k0 V J Rr) u) := by
  refine xMv.mk (lv0 := [(0, .ref (ad k0))]) (by decide) rfl (Nat.le_of_ble_eq_true rfl) (fun p e s m below meth c A C hr hnm hAe => ?_)
  have C : xC2 p s m _ meth c D A s.heap 1 cX9_end RX9 (xTY cy) := C
  have hB : FB (fun i k : Nat => (k0 ≤ i ∧ i ≤ k0 + 4)) V V := FB.rf _ _
  have hF := Imp.of_eq (f_r_end.eq_def k0 V J Rr)
  obtain ⟨z1, ez1, bz1⟩ := hI.rd 72 4 (x := -2147483648) (y := 2147483647) rfl
  replace hF := hF.to (rdb_e (z := z1) ez1)
  obtain ⟨z2, ez2, bz2⟩ := hI.rd k0 5 (x := 0) (y := 14) (rg_T hk0 5)
  replace hF := hF.to (rdb_e (z := z2) ez2)
  replace hF := hF.fc bz2
  rw [ez2] at hcl
  have hcl2 : 0 ≤ z2 ∧ z2 ≤ 13 := by omega
  refine x_aload_n C.1 dX9_end_0 0 rfl ?_
  refine x_dup C.1 dX9_end_1 rfl ?_
  refine x_getI C (N := 129) (i := k0) (by omega) (xd_T hk0) vc_X9 wx_X9 5 (by decide) wf_X9_27 rfl dX9_end_2 (a := z2) ez2 ?_
  refine x_iconst C.1 (n := 1) dX9_end_5 ?_
  refine x_iadd C.1 (v := z2 + 1) (by omega) dX9_end_6 ?_
  refine x_putI C (N := 129) (i := k0) (by omega) (xd_T hk0) vc_X9 wx_X9 5 (by decide) wf_X9_27 tyX9 tyX9_ok nmX9 rfl (tyX9_ok 5 (by decide)) rfl dX9_end_7 rfl rfl ?_
  refine x_gV ?_
  intro V3 hV3
  have hI3 : XI G V3 := hI.up hV3 (rg_T hk0 5) (by omega) (pr_T hk0 _)
  have hB3 := hB.up hV3 (⟨Nat.le_refl _, by omega⟩)
  replace hF := hF.to (rdb_e (z := V3) hV3.symm)
  refine x_aload_n C.1 dX9_end_10 0 rfl ?_
  refine x_getA C (N := 129) (i := k0) (by omega) (xd_T hk0) vc_X9 wx_X9 3 (by decide) wf_X9_17 (a := k0 + 3) rfl dX9_end_11 ?_
  refine x_aload_n C.1 dX9_end_14 0 rfl ?_
  refine x_getI C (N := 129) (i := k0) (by omega) (xd_T hk0) vc_X9 wx_X9 5 (by decide) wf_X9_27 rfl dX9_end_15 (a := z2 + 1) ((congrFun (congrFun hV3 k0) 5).trans (up2_s _ _ _ _)) ?_
  refine x_aload_n C.1 dX9_end_18 0 rfl ?_
  obtain ⟨z4, ez4, bz4⟩ := hI3.rd k0 1 (x := 0) (y := 200) (rg_T hk0 1)
  replace hF := hF.to (rdb_e (z := z4) ez4)
  replace hF := hF.fc bz4
  refine x_getI C (N := 129) (i := k0) (by omega) (xd_T hk0) vc_X9 wx_X9 1 (by decide) wf_X9_23 rfl dX9_end_19 (a := z4) ez4 ?_
  refine x_iast C (N := 129) (i := k0 + 3) (q := z2 + 1) (a := z4) (by omega) (xd_T3 hk0) (by omega) (by decide) dX9_end_22 ?_
  refine x_gV ?_
  intro V5 hV5
  have hI5 : XI G V5 := hI3.up hV5 (rg_T3 hk0 _) (by omega) (pr_T3 hk0 _)
  have hB5 := hB3.up hV5 (⟨by omega, by omega⟩)
  replace hF := hF.to (rdb_e (z := V5) hV5.symm)
  exact x_vret (S := (Nat → Nat → Int)) (post := (fun u : Nat → Nat → Int => XI G u ∧ u 72 4 = V 72 4 ∧ FB (fun i k : Nat => (k0 ≤ i ∧ i ≤ k0 + 4)) V u ∧ (f_r_end k0 V J Rr) u)) (w1 := (fun u : Nat → Nat → Int => XW cy ad u J Rr)) C hr rfl dX9_end_23 V5 rfl ⟨hI5, (((congrFun (congrFun hV5 72) 4).trans ((up2_n _ _ (Or.inl (by omega))).trans ((congrFun (congrFun hV3 72) 4).trans ((up2_n _ _ (Or.inl (by omega))).trans ez1)))).trans ez1.symm), hB5, hF _ rfl⟩
theorem dX6_peek_0 : decode cX6_peek 0 = .ok (.aload_n 0, 1) := by decide +kernel
theorem dX6_peek_1 : decode cX6_peek 1 = .ok (.getfield 22, 3) := by decide +kernel
theorem dX6_peek_4 : decode cX6_peek 4 = .ok (.aload_n 0, 1) := by decide +kernel
theorem dX6_peek_5 : decode cX6_peek 5 = .ok (.getfield 26, 3) := by decide +kernel
theorem dX6_peek_8 : decode cX6_peek 8 = .ok (.if_icmp .ge 17, 3) := by decide +kernel
theorem dX6_peek_11 : decode cX6_peek 11 = .ok (.aload_n 0, 1) := by decide +kernel
theorem dX6_peek_12 : decode cX6_peek 12 = .ok (.getfield 18, 3) := by decide +kernel
theorem dX6_peek_15 : decode cX6_peek 15 = .ok (.aload_n 0, 1) := by decide +kernel
theorem dX6_peek_16 : decode cX6_peek 16 = .ok (.getfield 22, 3) := by decide +kernel
theorem dX6_peek_19 : decode cX6_peek 19 = .ok (.invokevirtual 49, 3) := by decide +kernel
theorem dX6_peek_22 : decode cX6_peek 22 = .ok (.goto 4, 3) := by decide +kernel
theorem dX6_peek_25 : decode cX6_peek 25 = .ok (.iconst (-1), 1) := by decide +kernel
theorem dX6_peek_26 : decode cX6_peek 26 = .ok (.ireturn, 1) := by decide +kernel
set_option maxRecDepth 100000 in
def f_r_peek (V : Nat → Nat → Int) (J : Nat → Nat → Int) (Rr : Nat → Nat → Nat) : (Int) → Prop :=
  rdb (V 72 2) fun z1 => rdb (V 72 3) fun z2 => (if z2 ≤ z1 then rtn ((-1)) else calR (f_s_at z1 V J Rr) fun z4 => rtn z4)
set_option maxHeartbeats 8000000 in
set_option maxRecDepth 100000 in
theorem r_peek (l : Launch) (D : va_G) (cy : Nat → ClassId) (ad : Nat → Nat) (G : Nat → Nat → Int) (V J : Nat → Nat → Int) (Rr : Nat → Nat → Nat) (hI : TI G V) (hJ : VJ J) (hR : XR Rr)  : xMi l D (xTY cy) yX6_peek cX6_peek 1 (some .int) 1 21 0 0 [.ref (ad 72)] (XW cy ad V J Rr) (fun _ : Unit => XW cy ad V J Rr) (fun a (u : Unit) => (f_r_peek V J Rr) a) := by
  refine xMi.mk (lv0 := [(0, .ref (ad 72))]) (by decide) rfl (Nat.le_of_ble_eq_true rfl) (fun p e s m below meth c A C hr hnm hAe => ?_)
  have C : xC2 p s m _ meth c D A s.heap 1 cX6_peek RX6 (xTY cy) := C
  have hF := Imp.of_eq (f_r_peek.eq_def V J Rr)
  refine x_aload_n C.1 dX6_peek_0 0 rfl ?_
  obtain ⟨z1, ez1, bz1⟩ := hI.rd 72 2 (x := -2147483648) (y := 2147483647) rfl
  replace hF := hF.to (rdb_e (z := z1) ez1)
  refine x_getI C (N := 129) (i := 72) (by decide) rfl vc_X6 wx_X6 2 (by decide) wf_X6_22 rfl dX6_peek_1 (a := z1) ez1 ?_
  refine x_aload_n C.1 dX6_peek_4 0 rfl ?_
  obtain ⟨z2, ez2, bz2⟩ := hI.rd 72 3 (x := -2147483648) (y := 2147483647) rfl
  replace hF := hF.to (rdb_e (z := z2) ez2)
  refine x_getI C (N := 129) (i := 72) (by decide) rfl vc_X6 wx_X6 3 (by decide) wf_X6_26 rfl dX6_peek_5 (a := z2) ez2 ?_
  refine x_icmp_ge C.1 (tgt := 25) dX6_peek_8 (by decide) (by omega) (by omega) (fun hc3 => ?_) (fun hc3 => ?_)
  · replace hF := hF.to (if_pos hc3)
    refine x_iconst C.1 (n := -1) dX6_peek_25 ?_
    exact x_iret (S := Unit) (post := (fun a (u : Unit) => (f_r_peek V J Rr) a)) (w1 := (fun _ : Unit => XW cy ad V J Rr)) (a := (-1)) C hr rfl dX6_peek_26 (by decide) () rfl (hF _ rfl)
  · replace hF := hF.to (if_neg hc3)
    refine x_aload_n C.1 dX6_peek_11 0 rfl ?_
    refine x_getA C (N := 129) (i := 72) (by decide) rfl vc_X6 wx_X6 0 (by decide) wf_X6_18 (a := 58) rfl dX6_peek_12 ?_
    refine x_aload_n C.1 dX6_peek_15 0 rfl ?_
    refine x_getI C (N := 129) (i := 72) (by decide) rfl vc_X6 wx_X6 2 (by decide) wf_X6_22 rfl dX6_peek_16 (a := z1) ez1 ?_
    refine x_callVi C (As := [vI z1]) (rest := []) 58 (xw_at (N := 129) (i := 58) (by decide) rfl) vc_X8 (s_at l D cy ad G V J Rr hI.toX hJ hR z1 ⟨by omega, by omega⟩) (l1 := []) (l2 := []) (List.append_nil _).symm (w2 := fun _ => XW cy ad V J Rr) (fun _ => List.append_nil _) rfl wm_yX8_at wn_X8 wl_X6_49 wi_yX8_at we_yX8_at hd_yX8_at rfl ⟨Nat.le_of_ble_eq_true rfl, Nat.le_of_ble_eq_true rfl⟩ (Nat.le_of_ble_eq_true rfl) ⟨Nat.le_of_ble_eq_true rfl, Nat.le_of_ble_eq_true rfl⟩ dX6_peek_19 (fun z4 u4 bz4 h4 => ?_)
    have hFc4 := h4
    replace hF := calR_i hF hFc4
    refine x_goto C.1 (tgt := 26) dX6_peek_22 (by decide) ?_
    exact x_iret (S := Unit) (post := (fun a (u : Unit) => (f_r_peek V J Rr) a)) (w1 := (fun _ : Unit => XW cy ad V J Rr)) (a := z4) C hr rfl dX6_peek_26 (by omega) () rfl (hF _ rfl)
theorem dX6_fail_0 : decode cX6_fail 0 = .ok (.aload_n 0, 1) := by decide +kernel
theorem dX6_fail_1 : decode cX6_fail 1 = .ok (.sipush (-1000), 3) := by decide +kernel
theorem dX6_fail_4 : decode cX6_fail 4 = .ok (.iload_n 1, 1) := by decide +kernel
theorem dX6_fail_5 : decode cX6_fail 5 = .ok (.imul, 1) := by decide +kernel
theorem dX6_fail_6 : decode cX6_fail 6 = .ok (.aload_n 0, 1) := by decide +kernel
theorem dX6_fail_7 : decode cX6_fail 7 = .ok (.getfield 22, 3) := by decide +kernel
theorem dX6_fail_10 : decode cX6_fail 10 = .ok (.isub, 1) := by decide +kernel
theorem dX6_fail_11 : decode cX6_fail 11 = .ok (.putfield 32, 3) := by decide +kernel
theorem dX6_fail_14 : decode cX6_fail 14 = .ok (.iconst 0, 1) := by decide +kernel
theorem dX6_fail_15 : decode cX6_fail 15 = .ok (.ireturn, 1) := by decide +kernel
set_option maxRecDepth 100000 in
def f_r_fail (x1 : Int) (V : Nat → Nat → Int) (J : Nat → Nat → Int) (Rr : Nat → Nat → Nat) : (Int × (Nat → Nat → Int)) → Prop :=
  rdb (V 72 4) fun z1 => rdb (wr ((-1000) * x1)) fun z2 => rdb (V 72 2) fun z3 => rdb (wr (z2 - z3)) fun z4 => rdb (up2 V 72 5 z4) fun V5 => rtn (0, V5)
set_option maxHeartbeats 8000000 in
set_option maxRecDepth 100000 in
theorem r_fail (l : Launch) (D : va_G) (cy : Nat → ClassId) (ad : Nat → Nat) (G : Nat → Nat → Int) (V J : Nat → Nat → Int) (Rr : Nat → Nat → Nat) (hI : TI G V) (hJ : VJ J) (hR : XR Rr) (x1 : Int) (bx1 : -2147483648 ≤ x1 ∧ x1 ≤ 2147483647) : xMi l D (xTY cy) yX6_fail cX6_fail 2 (some .boolean) 0 0 0 0 [.ref (ad 72), vI x1] (XW cy ad V J Rr) (fun u : Nat → Nat → Int => XW cy ad u J Rr) (fun a (u : Nat → Nat → Int) => TI G u ∧ (0 ≤ a ∧ a ≤ 0) ∧ u 72 4 = V 72 4 ∧ FB (fun i k : Nat => (72 ≤ i ∧ i ≤ 72)) V u ∧ (f_r_fail x1 V J Rr) (a, u)) := by
  refine xMi.mk (lv0 := [(0, .ref (ad 72)), (1, vI x1)]) (by decide) rfl (Nat.le_of_ble_eq_true rfl) (fun p e s m below meth c A C hr hnm hAe => ?_)
  have C : xC2 p s m _ meth c D A s.heap 2 cX6_fail RX6 (xTY cy) := C
  have hB : FB (fun i k : Nat => (72 ≤ i ∧ i ≤ 72)) V V := FB.rf _ _
  have hF := Imp.of_eq (f_r_fail.eq_def x1 V J Rr)
  obtain ⟨z1, ez1, bz1⟩ := hI.rd 72 4 (x := -2147483648) (y := 2147483647) rfl
  replace hF := hF.to (rdb_e (z := z1) ez1)
  refine x_aload_n C.1 dX6_fail_0 0 rfl ?_
  refine x_sipush C.1 (n := -1000) dX6_fail_1 ?_
  refine x_iload_n C.1 dX6_fail_4 1 rfl ?_
  refine x_imul C.1 (v := (-1000) * x1) (by omega) dX6_fail_5 ?_
  refine x_wrapg ?_
  intro z2 bz2 ew2
  replace hF := hF.to (rdb_e (z := z2) ew2.symm)
  refine x_aload_n C.1 dX6_fail_6 0 rfl ?_
  obtain ⟨z3, ez3, bz3⟩ := hI.rd 72 2 (x := -2147483648) (y := 2147483647) rfl
  replace hF := hF.to (rdb_e (z := z3) ez3)
  refine x_getI C (N := 129) (i := 72) (by decide) rfl vc_X6 wx_X6 2 (by decide) wf_X6_22 rfl dX6_fail_7 (a := z3) ez3 ?_
  refine x_isub C.1 (v := z2 - z3) (by omega) dX6_fail_10 ?_
  refine x_wrapg ?_
  intro z4 bz4 ew4
  replace hF := hF.to (rdb_e (z := z4) ew4.symm)
  refine x_putI C (N := 129) (i := 72) (by decide) rfl vc_X6 wx_X6 5 (by decide) wf_X6_32 tyX6 tyX6_ok nmX6 rfl (tyX6_ok 5 (by decide)) rfl dX6_fail_11 rfl rfl ?_
  refine x_gV ?_
  intro V5 hV5
  have hI5 : TI G V5 := hI.up hV5 rfl (by omega) rfl
  have hB5 := hB.up hV5 (⟨by decide, by decide⟩)
  replace hF := hF.to (rdb_e (z := V5) hV5.symm)
  refine x_iconst C.1 (n := 0) dX6_fail_14 ?_
  exact x_zret (S := (Nat → Nat → Int)) (post := (fun a (u : Nat → Nat → Int) => TI G u ∧ (0 ≤ a ∧ a ≤ 0) ∧ u 72 4 = V 72 4 ∧ FB (fun i k : Nat => (72 ≤ i ∧ i ≤ 72)) V u ∧ (f_r_fail x1 V J Rr) (a, u))) (w1 := (fun u : Nat → Nat → Int => XW cy ad u J Rr)) (a := 0) C hr rfl dX6_fail_15 (by decide) V5 rfl ⟨hI5, ⟨by decide, by decide⟩, (((congrFun (congrFun hV5 72) 4).trans ((up2_n _ _ (Or.inr (by decide))).trans ez1)).trans ez1.symm), hB5, hF _ rfl⟩
theorem hd_yX6_fail : yX6_fail.cls ≠ "java/lang/invoke/MethodHandle" ∧ yX6_fail.cls ≠ "java/lang/invoke/VarHandle" ∧ (parseMethodDescriptor yX6_fail.desc).map (fun d => d.parameters.length) = some 1 := by decide +kernel
theorem hd_yX6_peek : yX6_peek.cls ≠ "java/lang/invoke/MethodHandle" ∧ yX6_peek.cls ≠ "java/lang/invoke/VarHandle" ∧ (parseMethodDescriptor yX6_peek.desc).map (fun d => d.parameters.length) = some 0 := by decide +kernel
theorem dX6_sign_0 : decode cX6_sign 0 = .ok (.aload_n 0, 1) := by decide +kernel
theorem dX6_sign_1 : decode cX6_sign 1 = .ok (.invokevirtual 54, 3) := by decide +kernel
theorem dX6_sign_4 : decode cX6_sign 4 = .ok (.iload_n 1, 1) := by decide +kernel
theorem dX6_sign_5 : decode cX6_sign 5 = .ok (.if_icmp .eq 9, 3) := by decide +kernel
theorem dX6_sign_8 : decode cX6_sign 8 = .ok (.aload_n 0, 1) := by decide +kernel
theorem dX6_sign_9 : decode cX6_sign 9 = .ok (.iconst 1, 1) := by decide +kernel
theorem dX6_sign_10 : decode cX6_sign 10 = .ok (.invokevirtual 58, 3) := by decide +kernel
theorem dX6_sign_13 : decode cX6_sign 13 = .ok (.ireturn, 1) := by decide +kernel
theorem dX6_sign_14 : decode cX6_sign 14 = .ok (.aload_n 0, 1) := by decide +kernel
theorem dX6_sign_15 : decode cX6_sign 15 = .ok (.dup, 1) := by decide +kernel
theorem dX6_sign_16 : decode cX6_sign 16 = .ok (.getfield 22, 3) := by decide +kernel
theorem dX6_sign_19 : decode cX6_sign 19 = .ok (.iconst 1, 1) := by decide +kernel
theorem dX6_sign_20 : decode cX6_sign 20 = .ok (.iadd, 1) := by decide +kernel
theorem dX6_sign_21 : decode cX6_sign 21 = .ok (.putfield 22, 3) := by decide +kernel
theorem dX6_sign_24 : decode cX6_sign 24 = .ok (.iconst 1, 1) := by decide +kernel
theorem dX6_sign_25 : decode cX6_sign 25 = .ok (.ireturn, 1) := by decide +kernel
set_option maxRecDepth 100000 in
def f_r_sign (x1 : Int) (V : Nat → Nat → Int) (J : Nat → Nat → Int) (Rr : Nat → Nat → Nat) : (Int × (Nat → Nat → Int)) → Prop :=
  rdb (V 72 4) fun z1 => calR (f_r_peek V J Rr) fun z2 => (if z2 = x1 then rdb (V 72 2) fun z4 => rdb (wr (z4 + 1)) fun z5 => rdb (up2 V 72 2 z5) fun V6 => rtn (1, V6) else calVX (fun i k : Nat => (72 ≤ i ∧ i ≤ 72)) V (f_r_fail 1 V J Rr) fun z7 V7 => fct (0 ≤ z7 ∧ z7 ≤ 0) <| rtn (z7, V7))
set_option maxHeartbeats 8000000 in
set_option maxRecDepth 100000 in
theorem r_sign (l : Launch) (D : va_G) (cy : Nat → ClassId) (ad : Nat → Nat) (G : Nat → Nat → Int) (V J : Nat → Nat → Int) (Rr : Nat → Nat → Nat) (hI : TI G V) (hJ : VJ J) (hR : XR Rr) (x1 : Int) (bx1 : 0 ≤ x1 ∧ x1 ≤ 65535) : xMi l D (xTY cy) yX6_sign cX6_sign 2 (some .boolean) 2 41 0 0 [.ref (ad 72), vI x1] (XW cy ad V J Rr) (fun u : Nat → Nat → Int => XW cy ad u J Rr) (fun a (u : Nat → Nat → Int) => TI G u ∧ (0 ≤ a ∧ a ≤ 1) ∧ u 72 4 = V 72 4 ∧ FB (fun i k : Nat => (72 ≤ i ∧ i ≤ 72)) V u ∧ (f_r_sign x1 V J Rr) (a, u)) := by
  refine xMi.mk (lv0 := [(0, .ref (ad 72)), (1, vI x1)]) (by decide) rfl (Nat.le_of_ble_eq_true rfl) (fun p e s m below meth c A C hr hnm hAe => ?_)
  have C : xC2 p s m _ meth c D A s.heap 2 cX6_sign RX6 (xTY cy) := C
  have hB : FB (fun i k : Nat => (72 ≤ i ∧ i ≤ 72)) V V := FB.rf _ _
  have hF := Imp.of_eq (f_r_sign.eq_def x1 V J Rr)
  obtain ⟨z1, ez1, bz1⟩ := hI.rd 72 4 (x := -2147483648) (y := 2147483647) rfl
  replace hF := hF.to (rdb_e (z := z1) ez1)
  refine x_aload_n C.1 dX6_sign_0 0 rfl ?_
  refine x_callVi C (As := []) (rest := []) 72 (xw_at (N := 129) (i := 72) (by decide) rfl) vc_X6 (r_peek l D cy ad G V J Rr hI hJ hR ) (l1 := []) (l2 := []) (List.append_nil _).symm (w2 := fun _ => XW cy ad V J Rr) (fun _ => List.append_nil _) rfl wm_yX6_peek wn_X6 wl_X6_54 wi_yX6_peek we_yX6_peek hd_yX6_peek rfl ⟨Nat.le_of_ble_eq_true rfl, Nat.le_of_ble_eq_true rfl⟩ (Nat.le_of_ble_eq_true rfl) ⟨Nat.le_of_ble_eq_true rfl, Nat.le_of_ble_eq_true rfl⟩ dX6_sign_1 (fun z2 u2 bz2 h2 => ?_)
  have hFc2 := h2
  replace hF := calR_i hF hFc2
  refine x_iload_n C.1 dX6_sign_4 1 rfl ?_
  refine x_icmp_eq C.1 (tgt := 14) dX6_sign_5 (by decide) (by omega) (by omega) (fun hc3 => ?_) (fun hc3 => ?_)
  · replace hF := hF.to (if_pos hc3)
    refine x_aload_n C.1 dX6_sign_14 0 rfl ?_
    refine x_dup C.1 dX6_sign_15 rfl ?_
    obtain ⟨z4, ez4, bz4⟩ := hI.rd 72 2 (x := -2147483648) (y := 2147483647) rfl
    replace hF := hF.to (rdb_e (z := z4) ez4)
    refine x_getI C (N := 129) (i := 72) (by decide) rfl vc_X6 wx_X6 2 (by decide) wf_X6_22 rfl dX6_sign_16 (a := z4) ez4 ?_
    refine x_iconst C.1 (n := 1) dX6_sign_19 ?_
    refine x_iadd C.1 (v := z4 + 1) (by omega) dX6_sign_20 ?_
    refine x_wrapg ?_
    intro z5 bz5 ew5
    replace hF := hF.to (rdb_e (z := z5) ew5.symm)
    refine x_putI C (N := 129) (i := 72) (by decide) rfl vc_X6 wx_X6 2 (by decide) wf_X6_22 tyX6 tyX6_ok nmX6 rfl (tyX6_ok 2 (by decide)) rfl dX6_sign_21 rfl rfl ?_
    refine x_gV ?_
    intro V6 hV6
    have hI6 : TI G V6 := hI.up hV6 rfl (by omega) rfl
    have hB6 := hB.up hV6 (⟨by decide, by decide⟩)
    replace hF := hF.to (rdb_e (z := V6) hV6.symm)
    refine x_iconst C.1 (n := 1) dX6_sign_24 ?_
    exact x_zret (S := (Nat → Nat → Int)) (post := (fun a (u : Nat → Nat → Int) => TI G u ∧ (0 ≤ a ∧ a ≤ 1) ∧ u 72 4 = V 72 4 ∧ FB (fun i k : Nat => (72 ≤ i ∧ i ≤ 72)) V u ∧ (f_r_sign x1 V J Rr) (a, u))) (w1 := (fun u : Nat → Nat → Int => XW cy ad u J Rr)) (a := 1) C hr rfl dX6_sign_25 (by decide) V6 rfl ⟨hI6, ⟨by decide, by decide⟩, (((congrFun (congrFun hV6 72) 4).trans ((up2_n _ _ (Or.inr (by decide))).trans ez1)).trans ez1.symm), hB6, hF _ rfl⟩
  · replace hF := hF.to (if_neg hc3)
    refine x_aload_n C.1 dX6_sign_8 0 rfl ?_
    refine x_iconst C.1 (n := 1) dX6_sign_9 ?_
    refine x_callVi C (As := [vI 1]) (rest := []) 72 (xw_at (N := 129) (i := 72) (by decide) rfl) vc_X6 (r_fail l D cy ad G V J Rr hI hJ hR 1 ⟨by decide, by decide⟩) (l1 := []) (l2 := []) (List.append_nil _).symm (w2 := fun u : Nat → Nat → Int => XW cy ad u J Rr) (fun _ => List.append_nil _) rfl wm_yX6_fail wn_X6 wl_X6_58 wi_yX6_fail we_yX6_fail hd_yX6_fail rfl ⟨Nat.le_of_ble_eq_true rfl, Nat.le_of_ble_eq_true rfl⟩ (Nat.le_of_ble_eq_true rfl) ⟨Nat.le_of_ble_eq_true rfl, Nat.le_of_ble_eq_true rfl⟩ dX6_sign_10 (fun z7 V7 bz7 h7 => ?_)
    obtain ⟨hI7, bq7, hx7_0, hBc7, hFc7⟩ := h7
    replace hF := calVX_i hF hFc7 hBc7
    replace hF := hF.fc bq7
    have hB7 := hB.tr hBc7 (fun i k h => (h))
    exact x_zret (S := (Nat → Nat → Int)) (post := (fun a (u : Nat → Nat → Int) => TI G u ∧ (0 ≤ a ∧ a ≤ 1) ∧ u 72 4 = V 72 4 ∧ FB (fun i k : Nat => (72 ≤ i ∧ i ≤ 72)) V u ∧ (f_r_sign x1 V J Rr) (a, u))) (w1 := (fun u : Nat → Nat → Int => XW cy ad u J Rr)) (a := z7) C hr rfl dX6_sign_13 (by omega) V7 rfl ⟨hI7, ⟨by omega, by omega⟩, ((hx7_0.trans ez1).trans ez1.symm), hB7, hF _ rfl⟩
theorem dX6_isDigit_0 : decode cX6_isDigit 0 = .ok (.iload_n 0, 1) := by decide +kernel
theorem dX6_isDigit_1 : decode cX6_isDigit 1 = .ok (.bipush 48, 2) := by decide +kernel
theorem dX6_isDigit_3 : decode cX6_isDigit 3 = .ok (.if_icmp .lt 13, 3) := by decide +kernel
theorem dX6_isDigit_6 : decode cX6_isDigit 6 = .ok (.iload_n 0, 1) := by decide +kernel
theorem dX6_isDigit_7 : decode cX6_isDigit 7 = .ok (.bipush 57, 2) := by decide +kernel
theorem dX6_isDigit_9 : decode cX6_isDigit 9 = .ok (.if_icmp .gt 7, 3) := by decide +kernel
theorem dX6_isDigit_12 : decode cX6_isDigit 12 = .ok (.iconst 1, 1) := by decide +kernel
theorem dX6_isDigit_13 : decode cX6_isDigit 13 = .ok (.goto 4, 3) := by decide +kernel
theorem dX6_isDigit_16 : decode cX6_isDigit 16 = .ok (.iconst 0, 1) := by decide +kernel
theorem dX6_isDigit_17 : decode cX6_isDigit 17 = .ok (.ireturn, 1) := by decide +kernel
set_option maxRecDepth 100000 in
def f_r_isDigit (x0 : Int) : (Int) → Prop :=
  (if x0 < 48 then rtn 0 else (if 57 < x0 then rtn 0 else rtn 1))
set_option maxHeartbeats 8000000 in
set_option maxRecDepth 100000 in
theorem r_isDigit (l : Launch) (D : va_G) (cy : Nat → ClassId) (x0 : Int) (bx0 : -2147483648 ≤ x0 ∧ x0 ≤ 2147483647) : xMi l D (xTY cy) yX6_isDigit cX6_isDigit 1 (some .boolean) 0 0 0 0 [vI x0] [] (fun _ : Unit => []) (fun a (u : Unit) => (0 ≤ a ∧ a ≤ 1) ∧ (f_r_isDigit x0) a) := by
  refine xMi.mk (lv0 := [(0, vI x0)]) (by decide) rfl (Nat.le_of_ble_eq_true rfl) (fun p e s m below meth c A C hr hnm hAe => ?_)
  have C : xC2 p s m _ meth c D A s.heap 1 cX6_isDigit RX6 (xTY cy) := C
  have hF := Imp.of_eq (f_r_isDigit.eq_def x0)
  refine x_iload_n C.1 dX6_isDigit_0 0 rfl ?_
  refine x_bipush C.1 (n := 48) dX6_isDigit_1 ?_
  refine x_icmp_lt C.1 (tgt := 16) dX6_isDigit_3 (by decide) (by omega) (by decide) (fun hc1 => ?_) (fun hc1 => ?_)
  · replace hF := hF.to (if_pos hc1)
    refine x_iconst C.1 (n := 0) dX6_isDigit_16 ?_
    exact x_zret (S := Unit) (post := (fun a (u : Unit) => (0 ≤ a ∧ a ≤ 1) ∧ (f_r_isDigit x0) a)) (w1 := (fun _ : Unit => [])) (a := 0) C hr rfl dX6_isDigit_17 (by decide) () rfl ⟨⟨by decide, by decide⟩, hF _ rfl⟩
  · replace hF := hF.to (if_neg hc1)
    refine x_iload_n C.1 dX6_isDigit_6 0 rfl ?_
    refine x_bipush C.1 (n := 57) dX6_isDigit_7 ?_
    refine x_icmp_gt C.1 (tgt := 16) dX6_isDigit_9 (by decide) (by omega) (by decide) (fun hc2 => ?_) (fun hc2 => ?_)
    · replace hF := hF.to (if_pos hc2)
      refine x_iconst C.1 (n := 0) dX6_isDigit_16 ?_
      exact x_zret (S := Unit) (post := (fun a (u : Unit) => (0 ≤ a ∧ a ≤ 1) ∧ (f_r_isDigit x0) a)) (w1 := (fun _ : Unit => [])) (a := 0) C hr rfl dX6_isDigit_17 (by decide) () rfl ⟨⟨by decide, by decide⟩, hF _ rfl⟩
    · replace hF := hF.to (if_neg hc2)
      refine x_iconst C.1 (n := 1) dX6_isDigit_12 ?_
      refine x_goto C.1 (tgt := 17) dX6_isDigit_13 (by decide) ?_
      exact x_zret (S := Unit) (post := (fun a (u : Unit) => (0 ≤ a ∧ a ≤ 1) ∧ (f_r_isDigit x0) a)) (w1 := (fun _ : Unit => [])) (a := 1) C hr rfl dX6_isDigit_17 (by decide) () rfl ⟨⟨by decide, by decide⟩, hF _ rfl⟩
theorem dX6_stepOf_0 : decode cX6_stepOf 0 = .ok (.iload_n 0, 1) := by decide +kernel
theorem dX6_stepOf_1 : decode cX6_stepOf 1 = .ok (.tableswitch 139 37 62 #[127, 139, 139, 139, 139, 123, 119, 139, 121, 139, 125, 139, 139, 139, 139, 139, 139, 139, 139, 139, 139, 139, 139, 130, 136, 133], 119) := by decide +kernel
theorem dX6_stepOf_120 : decode cX6_stepOf 120 = .ok (.iconst 2, 1) := by decide +kernel
theorem dX6_stepOf_121 : decode cX6_stepOf 121 = .ok (.ireturn, 1) := by decide +kernel
theorem dX6_stepOf_122 : decode cX6_stepOf 122 = .ok (.iconst 3, 1) := by decide +kernel
theorem dX6_stepOf_123 : decode cX6_stepOf 123 = .ok (.ireturn, 1) := by decide +kernel
theorem dX6_stepOf_124 : decode cX6_stepOf 124 = .ok (.iconst 4, 1) := by decide +kernel
theorem dX6_stepOf_125 : decode cX6_stepOf 125 = .ok (.ireturn, 1) := by decide +kernel
theorem dX6_stepOf_126 : decode cX6_stepOf 126 = .ok (.iconst 5, 1) := by decide +kernel
theorem dX6_stepOf_127 : decode cX6_stepOf 127 = .ok (.ireturn, 1) := by decide +kernel
theorem dX6_stepOf_128 : decode cX6_stepOf 128 = .ok (.bipush 6, 2) := by decide +kernel
theorem dX6_stepOf_130 : decode cX6_stepOf 130 = .ok (.ireturn, 1) := by decide +kernel
theorem dX6_stepOf_131 : decode cX6_stepOf 131 = .ok (.bipush 7, 2) := by decide +kernel
theorem dX6_stepOf_133 : decode cX6_stepOf 133 = .ok (.ireturn, 1) := by decide +kernel
theorem dX6_stepOf_134 : decode cX6_stepOf 134 = .ok (.bipush 8, 2) := by decide +kernel
theorem dX6_stepOf_136 : decode cX6_stepOf 136 = .ok (.ireturn, 1) := by decide +kernel
theorem dX6_stepOf_137 : decode cX6_stepOf 137 = .ok (.bipush 9, 2) := by decide +kernel
theorem dX6_stepOf_139 : decode cX6_stepOf 139 = .ok (.ireturn, 1) := by decide +kernel
theorem dX6_stepOf_140 : decode cX6_stepOf 140 = .ok (.iconst (-1), 1) := by decide +kernel
theorem dX6_stepOf_141 : decode cX6_stepOf 141 = .ok (.ireturn, 1) := by decide +kernel
set_option maxRecDepth 100000 in
def f_r_stepOf (x0 : Int) : (Int) → Prop :=
  (if x0 = 37 then rtn 6 else (if x0 = 38 then rtn ((-1)) else (if x0 = 39 then rtn ((-1)) else (if x0 = 40 then rtn ((-1)) else (if x0 = 41 then rtn ((-1)) else (if x0 = 42 then rtn 4 else (if x0 = 43 then rtn 2 else (if x0 = 44 then rtn ((-1)) else (if x0 = 45 then rtn 3 else (if x0 = 46 then rtn ((-1)) else (if x0 = 47 then rtn 5 else (if x0 = 48 then rtn ((-1)) else (if x0 = 49 then rtn ((-1)) else (if x0 = 50 then rtn ((-1)) else (if x0 = 51 then rtn ((-1)) else (if x0 = 52 then rtn ((-1)) else (if x0 = 53 then rtn ((-1)) else (if x0 = 54 then rtn ((-1)) else (if x0 = 55 then rtn ((-1)) else (if x0 = 56 then rtn ((-1)) else (if x0 = 57 then rtn ((-1)) else (if x0 = 58 then rtn ((-1)) else (if x0 = 59 then rtn ((-1)) else (if x0 = 60 then rtn 7 else (if x0 = 61 then rtn 9 else (if x0 = 62 then rtn 8 else rtn ((-1))))))))))))))))))))))))))))
set_option maxHeartbeats 8000000 in
set_option maxRecDepth 100000 in
theorem r_stepOf (l : Launch) (D : va_G) (cy : Nat → ClassId) (x0 : Int) (bx0 : -2147483648 ≤ x0 ∧ x0 ≤ 2147483647) : xMi l D (xTY cy) yX6_stepOf cX6_stepOf 1 (some .int) 0 0 0 0 [vI x0] [] (fun _ : Unit => []) (fun a (u : Unit) => (-1 ≤ a ∧ a ≤ 9) ∧ (f_r_stepOf x0) a) := by
  refine xMi.mk (lv0 := [(0, vI x0)]) (by decide) rfl (Nat.le_of_ble_eq_true rfl) (fun p e s m below meth c A C hr hnm hAe => ?_)
  have C : xC2 p s m _ meth c D A s.heap 1 cX6_stepOf RX6 (xTY cy) := C
  have hF := Imp.of_eq (f_r_stepOf.eq_def x0)
  refine x_iload_n C.1 dX6_stepOf_0 0 rfl ?_
  by_cases hs1 : x0 = 37
  · replace hF := hF.to (if_pos hs1)
    refine x_tabIn C.1 37 hs1 (by decide) (tgt := 128) dX6_stepOf_1 (by decide) (by decide) rfl (by decide) ?_
    refine x_bipush C.1 (n := 6) dX6_stepOf_128 ?_
    exact x_iret (S := Unit) (post := (fun a (u : Unit) => (-1 ≤ a ∧ a ≤ 9) ∧ (f_r_stepOf x0) a)) (w1 := (fun _ : Unit => [])) (a := 6) C hr rfl dX6_stepOf_130 (by decide) () rfl ⟨⟨by decide, by decide⟩, hF _ rfl⟩
  replace hF := hF.to (if_neg hs1)
  by_cases hs2 : x0 = 38
  · replace hF := hF.to (if_pos hs2)
    refine x_tabIn C.1 38 hs2 (by decide) (tgt := 140) dX6_stepOf_1 (by decide) (by decide) rfl (by decide) ?_
    refine x_iconst C.1 (n := -1) dX6_stepOf_140 ?_
    exact x_iret (S := Unit) (post := (fun a (u : Unit) => (-1 ≤ a ∧ a ≤ 9) ∧ (f_r_stepOf x0) a)) (w1 := (fun _ : Unit => [])) (a := (-1)) C hr rfl dX6_stepOf_141 (by decide) () rfl ⟨⟨by decide, by decide⟩, hF _ rfl⟩
  replace hF := hF.to (if_neg hs2)
  by_cases hs3 : x0 = 39
  · replace hF := hF.to (if_pos hs3)
    refine x_tabIn C.1 39 hs3 (by decide) (tgt := 140) dX6_stepOf_1 (by decide) (by decide) rfl (by decide) ?_
    refine x_iconst C.1 (n := -1) dX6_stepOf_140 ?_
    exact x_iret (S := Unit) (post := (fun a (u : Unit) => (-1 ≤ a ∧ a ≤ 9) ∧ (f_r_stepOf x0) a)) (w1 := (fun _ : Unit => [])) (a := (-1)) C hr rfl dX6_stepOf_141 (by decide) () rfl ⟨⟨by decide, by decide⟩, hF _ rfl⟩
  replace hF := hF.to (if_neg hs3)
  by_cases hs4 : x0 = 40
  · replace hF := hF.to (if_pos hs4)
    refine x_tabIn C.1 40 hs4 (by decide) (tgt := 140) dX6_stepOf_1 (by decide) (by decide) rfl (by decide) ?_
    refine x_iconst C.1 (n := -1) dX6_stepOf_140 ?_
    exact x_iret (S := Unit) (post := (fun a (u : Unit) => (-1 ≤ a ∧ a ≤ 9) ∧ (f_r_stepOf x0) a)) (w1 := (fun _ : Unit => [])) (a := (-1)) C hr rfl dX6_stepOf_141 (by decide) () rfl ⟨⟨by decide, by decide⟩, hF _ rfl⟩
  replace hF := hF.to (if_neg hs4)
  by_cases hs5 : x0 = 41
  · replace hF := hF.to (if_pos hs5)
    refine x_tabIn C.1 41 hs5 (by decide) (tgt := 140) dX6_stepOf_1 (by decide) (by decide) rfl (by decide) ?_
    refine x_iconst C.1 (n := -1) dX6_stepOf_140 ?_
    exact x_iret (S := Unit) (post := (fun a (u : Unit) => (-1 ≤ a ∧ a ≤ 9) ∧ (f_r_stepOf x0) a)) (w1 := (fun _ : Unit => [])) (a := (-1)) C hr rfl dX6_stepOf_141 (by decide) () rfl ⟨⟨by decide, by decide⟩, hF _ rfl⟩
  replace hF := hF.to (if_neg hs5)
  by_cases hs6 : x0 = 42
  · replace hF := hF.to (if_pos hs6)
    refine x_tabIn C.1 42 hs6 (by decide) (tgt := 124) dX6_stepOf_1 (by decide) (by decide) rfl (by decide) ?_
    refine x_iconst C.1 (n := 4) dX6_stepOf_124 ?_
    exact x_iret (S := Unit) (post := (fun a (u : Unit) => (-1 ≤ a ∧ a ≤ 9) ∧ (f_r_stepOf x0) a)) (w1 := (fun _ : Unit => [])) (a := 4) C hr rfl dX6_stepOf_125 (by decide) () rfl ⟨⟨by decide, by decide⟩, hF _ rfl⟩
  replace hF := hF.to (if_neg hs6)
  by_cases hs7 : x0 = 43
  · replace hF := hF.to (if_pos hs7)
    refine x_tabIn C.1 43 hs7 (by decide) (tgt := 120) dX6_stepOf_1 (by decide) (by decide) rfl (by decide) ?_
    refine x_iconst C.1 (n := 2) dX6_stepOf_120 ?_
    exact x_iret (S := Unit) (post := (fun a (u : Unit) => (-1 ≤ a ∧ a ≤ 9) ∧ (f_r_stepOf x0) a)) (w1 := (fun _ : Unit => [])) (a := 2) C hr rfl dX6_stepOf_121 (by decide) () rfl ⟨⟨by decide, by decide⟩, hF _ rfl⟩
  replace hF := hF.to (if_neg hs7)
  by_cases hs8 : x0 = 44
  · replace hF := hF.to (if_pos hs8)
    refine x_tabIn C.1 44 hs8 (by decide) (tgt := 140) dX6_stepOf_1 (by decide) (by decide) rfl (by decide) ?_
    refine x_iconst C.1 (n := -1) dX6_stepOf_140 ?_
    exact x_iret (S := Unit) (post := (fun a (u : Unit) => (-1 ≤ a ∧ a ≤ 9) ∧ (f_r_stepOf x0) a)) (w1 := (fun _ : Unit => [])) (a := (-1)) C hr rfl dX6_stepOf_141 (by decide) () rfl ⟨⟨by decide, by decide⟩, hF _ rfl⟩
  replace hF := hF.to (if_neg hs8)
  by_cases hs9 : x0 = 45
  · replace hF := hF.to (if_pos hs9)
    refine x_tabIn C.1 45 hs9 (by decide) (tgt := 122) dX6_stepOf_1 (by decide) (by decide) rfl (by decide) ?_
    refine x_iconst C.1 (n := 3) dX6_stepOf_122 ?_
    exact x_iret (S := Unit) (post := (fun a (u : Unit) => (-1 ≤ a ∧ a ≤ 9) ∧ (f_r_stepOf x0) a)) (w1 := (fun _ : Unit => [])) (a := 3) C hr rfl dX6_stepOf_123 (by decide) () rfl ⟨⟨by decide, by decide⟩, hF _ rfl⟩
  replace hF := hF.to (if_neg hs9)
  by_cases hs10 : x0 = 46
  · replace hF := hF.to (if_pos hs10)
    refine x_tabIn C.1 46 hs10 (by decide) (tgt := 140) dX6_stepOf_1 (by decide) (by decide) rfl (by decide) ?_
    refine x_iconst C.1 (n := -1) dX6_stepOf_140 ?_
    exact x_iret (S := Unit) (post := (fun a (u : Unit) => (-1 ≤ a ∧ a ≤ 9) ∧ (f_r_stepOf x0) a)) (w1 := (fun _ : Unit => [])) (a := (-1)) C hr rfl dX6_stepOf_141 (by decide) () rfl ⟨⟨by decide, by decide⟩, hF _ rfl⟩
  replace hF := hF.to (if_neg hs10)
  by_cases hs11 : x0 = 47
  · replace hF := hF.to (if_pos hs11)
    refine x_tabIn C.1 47 hs11 (by decide) (tgt := 126) dX6_stepOf_1 (by decide) (by decide) rfl (by decide) ?_
    refine x_iconst C.1 (n := 5) dX6_stepOf_126 ?_
    exact x_iret (S := Unit) (post := (fun a (u : Unit) => (-1 ≤ a ∧ a ≤ 9) ∧ (f_r_stepOf x0) a)) (w1 := (fun _ : Unit => [])) (a := 5) C hr rfl dX6_stepOf_127 (by decide) () rfl ⟨⟨by decide, by decide⟩, hF _ rfl⟩
  replace hF := hF.to (if_neg hs11)
  by_cases hs12 : x0 = 48
  · replace hF := hF.to (if_pos hs12)
    refine x_tabIn C.1 48 hs12 (by decide) (tgt := 140) dX6_stepOf_1 (by decide) (by decide) rfl (by decide) ?_
    refine x_iconst C.1 (n := -1) dX6_stepOf_140 ?_
    exact x_iret (S := Unit) (post := (fun a (u : Unit) => (-1 ≤ a ∧ a ≤ 9) ∧ (f_r_stepOf x0) a)) (w1 := (fun _ : Unit => [])) (a := (-1)) C hr rfl dX6_stepOf_141 (by decide) () rfl ⟨⟨by decide, by decide⟩, hF _ rfl⟩
  replace hF := hF.to (if_neg hs12)
  by_cases hs13 : x0 = 49
  · replace hF := hF.to (if_pos hs13)
    refine x_tabIn C.1 49 hs13 (by decide) (tgt := 140) dX6_stepOf_1 (by decide) (by decide) rfl (by decide) ?_
    refine x_iconst C.1 (n := -1) dX6_stepOf_140 ?_
    exact x_iret (S := Unit) (post := (fun a (u : Unit) => (-1 ≤ a ∧ a ≤ 9) ∧ (f_r_stepOf x0) a)) (w1 := (fun _ : Unit => [])) (a := (-1)) C hr rfl dX6_stepOf_141 (by decide) () rfl ⟨⟨by decide, by decide⟩, hF _ rfl⟩
  replace hF := hF.to (if_neg hs13)
  by_cases hs14 : x0 = 50
  · replace hF := hF.to (if_pos hs14)
    refine x_tabIn C.1 50 hs14 (by decide) (tgt := 140) dX6_stepOf_1 (by decide) (by decide) rfl (by decide) ?_
    refine x_iconst C.1 (n := -1) dX6_stepOf_140 ?_
    exact x_iret (S := Unit) (post := (fun a (u : Unit) => (-1 ≤ a ∧ a ≤ 9) ∧ (f_r_stepOf x0) a)) (w1 := (fun _ : Unit => [])) (a := (-1)) C hr rfl dX6_stepOf_141 (by decide) () rfl ⟨⟨by decide, by decide⟩, hF _ rfl⟩
  replace hF := hF.to (if_neg hs14)
  by_cases hs15 : x0 = 51
  · replace hF := hF.to (if_pos hs15)
    refine x_tabIn C.1 51 hs15 (by decide) (tgt := 140) dX6_stepOf_1 (by decide) (by decide) rfl (by decide) ?_
    refine x_iconst C.1 (n := -1) dX6_stepOf_140 ?_
    exact x_iret (S := Unit) (post := (fun a (u : Unit) => (-1 ≤ a ∧ a ≤ 9) ∧ (f_r_stepOf x0) a)) (w1 := (fun _ : Unit => [])) (a := (-1)) C hr rfl dX6_stepOf_141 (by decide) () rfl ⟨⟨by decide, by decide⟩, hF _ rfl⟩
  replace hF := hF.to (if_neg hs15)
  by_cases hs16 : x0 = 52
  · replace hF := hF.to (if_pos hs16)
    refine x_tabIn C.1 52 hs16 (by decide) (tgt := 140) dX6_stepOf_1 (by decide) (by decide) rfl (by decide) ?_
    refine x_iconst C.1 (n := -1) dX6_stepOf_140 ?_
    exact x_iret (S := Unit) (post := (fun a (u : Unit) => (-1 ≤ a ∧ a ≤ 9) ∧ (f_r_stepOf x0) a)) (w1 := (fun _ : Unit => [])) (a := (-1)) C hr rfl dX6_stepOf_141 (by decide) () rfl ⟨⟨by decide, by decide⟩, hF _ rfl⟩
  replace hF := hF.to (if_neg hs16)
  by_cases hs17 : x0 = 53
  · replace hF := hF.to (if_pos hs17)
    refine x_tabIn C.1 53 hs17 (by decide) (tgt := 140) dX6_stepOf_1 (by decide) (by decide) rfl (by decide) ?_
    refine x_iconst C.1 (n := -1) dX6_stepOf_140 ?_
    exact x_iret (S := Unit) (post := (fun a (u : Unit) => (-1 ≤ a ∧ a ≤ 9) ∧ (f_r_stepOf x0) a)) (w1 := (fun _ : Unit => [])) (a := (-1)) C hr rfl dX6_stepOf_141 (by decide) () rfl ⟨⟨by decide, by decide⟩, hF _ rfl⟩
  replace hF := hF.to (if_neg hs17)
  by_cases hs18 : x0 = 54
  · replace hF := hF.to (if_pos hs18)
    refine x_tabIn C.1 54 hs18 (by decide) (tgt := 140) dX6_stepOf_1 (by decide) (by decide) rfl (by decide) ?_
    refine x_iconst C.1 (n := -1) dX6_stepOf_140 ?_
    exact x_iret (S := Unit) (post := (fun a (u : Unit) => (-1 ≤ a ∧ a ≤ 9) ∧ (f_r_stepOf x0) a)) (w1 := (fun _ : Unit => [])) (a := (-1)) C hr rfl dX6_stepOf_141 (by decide) () rfl ⟨⟨by decide, by decide⟩, hF _ rfl⟩
  replace hF := hF.to (if_neg hs18)
  by_cases hs19 : x0 = 55
  · replace hF := hF.to (if_pos hs19)
    refine x_tabIn C.1 55 hs19 (by decide) (tgt := 140) dX6_stepOf_1 (by decide) (by decide) rfl (by decide) ?_
    refine x_iconst C.1 (n := -1) dX6_stepOf_140 ?_
    exact x_iret (S := Unit) (post := (fun a (u : Unit) => (-1 ≤ a ∧ a ≤ 9) ∧ (f_r_stepOf x0) a)) (w1 := (fun _ : Unit => [])) (a := (-1)) C hr rfl dX6_stepOf_141 (by decide) () rfl ⟨⟨by decide, by decide⟩, hF _ rfl⟩
  replace hF := hF.to (if_neg hs19)
  by_cases hs20 : x0 = 56
  · replace hF := hF.to (if_pos hs20)
    refine x_tabIn C.1 56 hs20 (by decide) (tgt := 140) dX6_stepOf_1 (by decide) (by decide) rfl (by decide) ?_
    refine x_iconst C.1 (n := -1) dX6_stepOf_140 ?_
    exact x_iret (S := Unit) (post := (fun a (u : Unit) => (-1 ≤ a ∧ a ≤ 9) ∧ (f_r_stepOf x0) a)) (w1 := (fun _ : Unit => [])) (a := (-1)) C hr rfl dX6_stepOf_141 (by decide) () rfl ⟨⟨by decide, by decide⟩, hF _ rfl⟩
  replace hF := hF.to (if_neg hs20)
  by_cases hs21 : x0 = 57
  · replace hF := hF.to (if_pos hs21)
    refine x_tabIn C.1 57 hs21 (by decide) (tgt := 140) dX6_stepOf_1 (by decide) (by decide) rfl (by decide) ?_
    refine x_iconst C.1 (n := -1) dX6_stepOf_140 ?_
    exact x_iret (S := Unit) (post := (fun a (u : Unit) => (-1 ≤ a ∧ a ≤ 9) ∧ (f_r_stepOf x0) a)) (w1 := (fun _ : Unit => [])) (a := (-1)) C hr rfl dX6_stepOf_141 (by decide) () rfl ⟨⟨by decide, by decide⟩, hF _ rfl⟩
  replace hF := hF.to (if_neg hs21)
  by_cases hs22 : x0 = 58
  · replace hF := hF.to (if_pos hs22)
    refine x_tabIn C.1 58 hs22 (by decide) (tgt := 140) dX6_stepOf_1 (by decide) (by decide) rfl (by decide) ?_
    refine x_iconst C.1 (n := -1) dX6_stepOf_140 ?_
    exact x_iret (S := Unit) (post := (fun a (u : Unit) => (-1 ≤ a ∧ a ≤ 9) ∧ (f_r_stepOf x0) a)) (w1 := (fun _ : Unit => [])) (a := (-1)) C hr rfl dX6_stepOf_141 (by decide) () rfl ⟨⟨by decide, by decide⟩, hF _ rfl⟩
  replace hF := hF.to (if_neg hs22)
  by_cases hs23 : x0 = 59
  · replace hF := hF.to (if_pos hs23)
    refine x_tabIn C.1 59 hs23 (by decide) (tgt := 140) dX6_stepOf_1 (by decide) (by decide) rfl (by decide) ?_
    refine x_iconst C.1 (n := -1) dX6_stepOf_140 ?_
    exact x_iret (S := Unit) (post := (fun a (u : Unit) => (-1 ≤ a ∧ a ≤ 9) ∧ (f_r_stepOf x0) a)) (w1 := (fun _ : Unit => [])) (a := (-1)) C hr rfl dX6_stepOf_141 (by decide) () rfl ⟨⟨by decide, by decide⟩, hF _ rfl⟩
  replace hF := hF.to (if_neg hs23)
  by_cases hs24 : x0 = 60
  · replace hF := hF.to (if_pos hs24)
    refine x_tabIn C.1 60 hs24 (by decide) (tgt := 131) dX6_stepOf_1 (by decide) (by decide) rfl (by decide) ?_
    refine x_bipush C.1 (n := 7) dX6_stepOf_131 ?_
    exact x_iret (S := Unit) (post := (fun a (u : Unit) => (-1 ≤ a ∧ a ≤ 9) ∧ (f_r_stepOf x0) a)) (w1 := (fun _ : Unit => [])) (a := 7) C hr rfl dX6_stepOf_133 (by decide) () rfl ⟨⟨by decide, by decide⟩, hF _ rfl⟩
  replace hF := hF.to (if_neg hs24)
  by_cases hs25 : x0 = 61
  · replace hF := hF.to (if_pos hs25)
    refine x_tabIn C.1 61 hs25 (by decide) (tgt := 137) dX6_stepOf_1 (by decide) (by decide) rfl (by decide) ?_
    refine x_bipush C.1 (n := 9) dX6_stepOf_137 ?_
    exact x_iret (S := Unit) (post := (fun a (u : Unit) => (-1 ≤ a ∧ a ≤ 9) ∧ (f_r_stepOf x0) a)) (w1 := (fun _ : Unit => [])) (a := 9) C hr rfl dX6_stepOf_139 (by decide) () rfl ⟨⟨by decide, by decide⟩, hF _ rfl⟩
  replace hF := hF.to (if_neg hs25)
  by_cases hs26 : x0 = 62
  · replace hF := hF.to (if_pos hs26)
    refine x_tabIn C.1 62 hs26 (by decide) (tgt := 134) dX6_stepOf_1 (by decide) (by decide) rfl (by decide) ?_
    refine x_bipush C.1 (n := 8) dX6_stepOf_134 ?_
    exact x_iret (S := Unit) (post := (fun a (u : Unit) => (-1 ≤ a ∧ a ≤ 9) ∧ (f_r_stepOf x0) a)) (w1 := (fun _ : Unit => [])) (a := 8) C hr rfl dX6_stepOf_136 (by decide) () rfl ⟨⟨by decide, by decide⟩, hF _ rfl⟩
  replace hF := hF.to (if_neg hs26)
  refine x_tabOut C.1 (tgt := 140) (by omega) dX6_stepOf_1 (by omega) (by decide) ?_
  refine x_iconst C.1 (n := -1) dX6_stepOf_140 ?_
  exact x_iret (S := Unit) (post := (fun a (u : Unit) => (-1 ≤ a ∧ a ≤ 9) ∧ (f_r_stepOf x0) a)) (w1 := (fun _ : Unit => [])) (a := (-1)) C hr rfl dX6_stepOf_141 (by decide) () rfl ⟨⟨by decide, by decide⟩, hF _ rfl⟩
theorem hd_yX6_isDigit : yX6_isDigit.cls ≠ "java/lang/invoke/MethodHandle" ∧ yX6_isDigit.cls ≠ "java/lang/invoke/VarHandle" ∧ (parseMethodDescriptor yX6_isDigit.desc).map (fun d => d.parameters.length) = some 1 := by decide +kernel
theorem dX6_number_0 : decode cX6_number 0 = .ok (.iconst 0, 1) := by decide +kernel
theorem dX6_number_1 : decode cX6_number 1 = .ok (.istore_n 1, 1) := by decide +kernel
theorem dX6_number_2 : decode cX6_number 2 = .ok (.iconst 0, 1) := by decide +kernel
theorem dX6_number_3 : decode cX6_number 3 = .ok (.istore_n 2, 1) := by decide +kernel
theorem dX6_number_4 : decode cX6_number 4 = .ok (.iload_n 2, 1) := by decide +kernel
theorem dX6_number_5 : decode cX6_number 5 = .ok (.iconst 5, 1) := by decide +kernel
theorem dX6_number_6 : decode cX6_number 6 = .ok (.if_icmp .ge 42, 3) := by decide +kernel
theorem dX6_number_9 : decode cX6_number 9 = .ok (.aload_n 0, 1) := by decide +kernel
theorem dX6_number_10 : decode cX6_number 10 = .ok (.invokevirtual 54, 3) := by decide +kernel
theorem dX6_number_13 : decode cX6_number 13 = .ok (.invokestatic 119, 3) := by decide +kernel
theorem dX6_number_16 : decode cX6_number 16 = .ok (.ifCond .eq 32, 3) := by decide +kernel
theorem dX6_number_19 : decode cX6_number 19 = .ok (.iload_n 1, 1) := by decide +kernel
theorem dX6_number_20 : decode cX6_number 20 = .ok (.bipush 10, 2) := by decide +kernel
theorem dX6_number_22 : decode cX6_number 22 = .ok (.imul, 1) := by decide +kernel
theorem dX6_number_23 : decode cX6_number 23 = .ok (.aload_n 0, 1) := by decide +kernel
theorem dX6_number_24 : decode cX6_number 24 = .ok (.invokevirtual 54, 3) := by decide +kernel
theorem dX6_number_27 : decode cX6_number 27 = .ok (.iadd, 1) := by decide +kernel
theorem dX6_number_28 : decode cX6_number 28 = .ok (.bipush 48, 2) := by decide +kernel
theorem dX6_number_30 : decode cX6_number 30 = .ok (.isub, 1) := by decide +kernel
theorem dX6_number_31 : decode cX6_number 31 = .ok (.istore_n 1, 1) := by decide +kernel
theorem dX6_number_32 : decode cX6_number 32 = .ok (.aload_n 0, 1) := by decide +kernel
theorem dX6_number_33 : decode cX6_number 33 = .ok (.dup, 1) := by decide +kernel
theorem dX6_number_34 : decode cX6_number 34 = .ok (.getfield 22, 3) := by decide +kernel
theorem dX6_number_37 : decode cX6_number 37 = .ok (.iconst 1, 1) := by decide +kernel
theorem dX6_number_38 : decode cX6_number 38 = .ok (.iadd, 1) := by decide +kernel
theorem dX6_number_39 : decode cX6_number 39 = .ok (.putfield 22, 3) := by decide +kernel
theorem dX6_number_42 : decode cX6_number 42 = .ok (.iinc 2 1, 3) := by decide +kernel
theorem dX6_number_45 : decode cX6_number 45 = .ok (.goto (-41), 3) := by decide +kernel
theorem dX6_number_48 : decode cX6_number 48 = .ok (.aload_n 0, 1) := by decide +kernel
theorem dX6_number_49 : decode cX6_number 49 = .ok (.invokevirtual 54, 3) := by decide +kernel
theorem dX6_number_52 : decode cX6_number 52 = .ok (.invokestatic 119, 3) := by decide +kernel
theorem dX6_number_55 : decode cX6_number 55 = .ok (.ifCond .eq 9, 3) := by decide +kernel
theorem dX6_number_58 : decode cX6_number 58 = .ok (.aload_n 0, 1) := by decide +kernel
theorem dX6_number_59 : decode cX6_number 59 = .ok (.iconst 2, 1) := by decide +kernel
theorem dX6_number_60 : decode cX6_number 60 = .ok (.invokevirtual 58, 3) := by decide +kernel
theorem dX6_number_63 : decode cX6_number 63 = .ok (.ireturn, 1) := by decide +kernel
theorem dX6_number_64 : decode cX6_number 64 = .ok (.aload_n 0, 1) := by decide +kernel
theorem dX6_number_65 : decode cX6_number 65 = .ok (.getfield 12, 3) := by decide +kernel
theorem dX6_number_68 : decode cX6_number 68 = .ok (.iconst 0, 1) := by decide +kernel
theorem dX6_number_69 : decode cX6_number 69 = .ok (.iload_n 1, 1) := by decide +kernel
theorem dX6_number_70 : decode cX6_number 70 = .ok (.invokevirtual 106, 3) := by decide +kernel
theorem dX6_number_73 : decode cX6_number 73 = .ok (.iconst 1, 1) := by decide +kernel
theorem dX6_number_74 : decode cX6_number 74 = .ok (.ireturn, 1) := by decide +kernel
set_option maxRecDepth 100000 in
def f_r_number (V : Nat → Nat → Int) (J : Nat → Nat → Int) (Rr : Nat → Nat → Nat) : (Int × (Nat → Nat → Int)) → Prop :=
  rdb (V 72 4) fun z1 => lop3 (7) (fun rc161 (z158 : Int) (z159 : Int) (V161 : Nat → Nat → Int) => jnk (fun (un202 : Unit) => calR (f_r_peek V161 J Rr) fun z203 => calR (f_r_isDigit z203) fun z204 => fct (0 ≤ z204 ∧ z204 ≤ 1) <| (if z204 = 0 then rdb (Rr 72 1) fun t206 => calUX (fun i k : Nat => (t206 ≤ i ∧ i ≤ t206 + 4)) V161 (f_r_put t206 0 z159 V161 J Rr) fun V207 => rtn (1, V207) else calVX (fun i k : Nat => (72 ≤ i ∧ i ≤ 72)) V161 (f_r_fail 2 V161 J Rr) fun z208 V208 => fct (0 ≤ z208 ∧ z208 ≤ 0) <| rtn (z208, V208))) fun jf202 => (if 5 ≤ z158 then jf202 (()) else calR (f_r_peek V161 J Rr) fun z210 => calR (f_r_isDigit z210) fun z211 => fct (0 ≤ z211 ∧ z211 ≤ 1) <| (if z211 = 0 then jf202 (()) else rdb (wr (10 * z159)) fun z213 => calR (f_r_peek V161 J Rr) fun z214 => rdb (wr (z213 + z214)) fun z215 => rdb (wr (z215 - 48)) fun z216 => rdb (V161 72 2) fun z217 => rdb (wr (z217 + 1)) fun z218 => rdb (up2 V161 72 2 z218) fun V219 => rc161 (z158 + 1) z216 V219))) 0 0 V
set_option maxHeartbeats 8000000 in
set_option maxRecDepth 100000 in
theorem r_number (l : Launch) (D : va_G) (cy : Nat → ClassId) (ad : Nat → Nat) (G : Nat → Nat → Int) (V J : Nat → Nat → Int) (Rr : Nat → Nat → Nat) (hI : TI G V) (hJ : VJ J) (hR : XR Rr)  : xMi l D (xTY cy) yX6_number cX6_number 3 (some .boolean) 2 41 0 0 [.ref (ad 72)] (XW cy ad V J Rr) (fun u : Nat → Nat → Int => XW cy ad u J Rr) (fun a (u : Nat → Nat → Int) => TI G u ∧ (0 ≤ a ∧ a ≤ 1) ∧ u 72 4 = V 72 4 ∧ FB (fun i k : Nat => (72 ≤ i ∧ i ≤ 72) ∨ (Rr 72 1 ≤ i ∧ i ≤ Rr 72 1 + 4)) V u ∧ (f_r_number V J Rr) (a, u)) := by
  refine xMi.mk (lv0 := [(0, .ref (ad 72))]) (by decide) rfl (Nat.le_of_ble_eq_true rfl) (fun p e s m below meth c A C hr hnm hAe => ?_)
  have C : xC2 p s m _ meth c D A s.heap 3 cX6_number RX6 (xTY cy) := C
  have hB : FB (fun i k : Nat => (72 ≤ i ∧ i ≤ 72) ∨ (Rr 72 1 ≤ i ∧ i ≤ Rr 72 1 + 4)) V V := FB.rf _ _
  have hF := Imp.of_eq (f_r_number.eq_def V J Rr)
  obtain ⟨z1, ez1, bz1⟩ := hI.rd 72 4 (x := -2147483648) (y := 2147483647) rfl
  replace hF := hF.to (rdb_e (z := z1) ez1)
  refine x_iconst C.1 (n := 0) dX6_number_0 ?_
  refine x_istore_n C.1 (lv' := [(1, vI 0), (0, .ref (ad 72))]) dX6_number_1 (by decide) rfl ?_
  refine x_iconst C.1 (n := 0) dX6_number_2 ?_
  refine x_istore_n C.1 (lv' := [(2, vI 0), (1, vI 0), (0, .ref (ad 72))]) dX6_number_3 (by decide) rfl ?_
  obtain ⟨bd161, hbd161, hF⟩ := lop3_ex hF
  refine x_loop (I := fun x : Int × Int × (Nat → Nat → Int) => match x with | (z158, z159, V161) => (0 ≤ z158 ∧ z158 ≤ 5) ∧ (-2147483648 ≤ z159 ∧ z159 ≤ 2147483647) ∧ TI G V161 ∧ FB (fun i k : Nat => (72 ≤ i ∧ i ≤ 72) ∨ (Rr 72 1 ≤ i ∧ i ≤ Rr 72 1 + 4)) V V161 ∧ V161 72 4 = z1 ∧ (∃ nf : Nat, (6 - z158).toNat < nf ∧ Imp (lop3 nf bd161 z158 z159 V161) (f_r_number V J Rr))) (μ := fun x : Int × Int × (Nat → Nat → Int) => match x with | (z158, z159, V161) => (6 - z158).toNat) (wsf := fun x : Int × Int × (Nat → Nat → Int) => match x with | (z158, z159, V161) => XW cy ad V161 J Rr) (lvf := fun x : Int × Int × (Nat → Nat → Int) => match x with | (z158, z159, V161) => [(2, vI z158), (1, vI z159), (0, .ref (ad 72))]) (fun x hI161x ih161 => ?_) (0, 0, V) ⟨⟨by decide, by decide⟩, ⟨by decide, by decide⟩, hI, hB, ez1, ⟨_, (by omega), hF⟩⟩ rfl rfl
  obtain ⟨z158, z159, V161⟩ := x
  obtain ⟨bz158, bz159, hI161, hB161, hk160_0, nf161, hn161, hF⟩ := hI161x
  try dsimp only
  obtain ⟨nf161, rfl⟩ : ∃ mm, nf161 = mm + 1 := ⟨nf161 - 1, (Nat.succ_pred_eq_of_pos (Nat.lt_of_le_of_lt (Nat.zero_le _) hn161)).symm⟩
  replace hF := hF.to (lop3_s hbd161)
  refine x_iload_n C.1 dX6_number_4 0 rfl ?_
  refine x_iconst C.1 (n := 5) dX6_number_5 ?_
  obtain ⟨jf202, hjf202, hF⟩ := jn_ex hF
  refine x_join (I := fun un202 : Unit => True ∧ Imp (jf202 un202) (f_r_number V J Rr)) (wsf := fun un202 : Unit => XW cy ad V161 J Rr) (lvf := fun un202 : Unit => [(2, vI z158), (1, vI z159), (0, .ref (ad 72))]) (stf := fun un202 : Unit => []) 48 (fun un202 hI202x => ?_) (fun jn202 => ?_)
  · obtain ⟨_, hF⟩ := hI202x
    try dsimp only
    replace hF := hF.to (jn_s1 hjf202)
    refine x_aload_n C.1 dX6_number_48 2 rfl ?_
    refine x_callVi C (As := []) (rest := []) 72 (xw_at (N := 129) (i := 72) (by decide) rfl) vc_X6 (r_peek l D cy ad G V161 J Rr hI161 hJ hR ) (l1 := []) (l2 := []) (List.append_nil _).symm (w2 := fun _ => XW cy ad V161 J Rr) (fun _ => List.append_nil _) rfl wm_yX6_peek wn_X6 wl_X6_54 wi_yX6_peek we_yX6_peek hd_yX6_peek rfl ⟨Nat.le_of_ble_eq_true rfl, Nat.le_of_ble_eq_true rfl⟩ (Nat.le_of_ble_eq_true rfl) ⟨Nat.le_of_ble_eq_true rfl, Nat.le_of_ble_eq_true rfl⟩ dX6_number_49 (fun z203 u203 bz203 h203 => ?_)
    have hFc203 := h203
    replace hF := calR_i hF hFc203
    refine x_callSi C (As := [vI z203]) (rest := []) (r_isDigit l D cy z203 ⟨by omega, by omega⟩) (l1 := []) (l2 := _) rfl (w2 := fun _ => _) (fun _ => rfl) rfl wm_yX6_isDigit wn_X6 wl_X6_119 wi_yX6_isDigit hd_yX6_isDigit rfl ⟨Nat.le_of_ble_eq_true rfl, Nat.le_of_ble_eq_true rfl⟩ (Nat.le_of_ble_eq_true rfl) ⟨Nat.le_of_ble_eq_true rfl, Nat.le_of_ble_eq_true rfl⟩ dX6_number_52 (fun z204 u204 bz204 h204 => ?_)
    obtain ⟨bq204, hFc204⟩ := h204
    replace hF := calR_i hF hFc204
    replace hF := hF.fc bq204
    refine x_if_eq C.1 (tgt := 64) dX6_number_55 (by decide) (by omega) (fun hc205 => ?_) (fun hc205 => ?_)
    · replace hF := hF.to (if_pos hc205)
      refine x_aload_n C.1 dX6_number_64 2 rfl ?_
      obtain ⟨t206, et206, ht206⟩ := XR.into hR
      replace hF := hF.to (rdb_e (z := t206) et206)
      refine x_getR C (N := 129) (i := 72) (by decide) rfl vc_X6 wx_X6 1 (by decide) wf_X6_12 rfl dX6_number_65 (a := t206) et206 ?_
      refine x_iconst C.1 (n := 0) dX6_number_68 ?_
      refine x_iload_n C.1 dX6_number_69 1 rfl ?_
      refine x_callVv C (As := [vI 0, vI z159]) (rest := []) t206 (xw_at (N := 129) (i := t206) (by omega) (xd_T ht206)) vc_X9 (r_put l D cy ad G V161 J Rr hI161 hJ hR t206 ht206 0 ⟨by decide, by decide⟩ z159 ⟨by omega, by omega⟩) (l1 := []) (l2 := []) (List.append_nil _).symm (w2 := fun u : Nat → Nat → Int => XW cy ad u J Rr) (fun _ => List.append_nil _) rfl wm_yX9_put wn_X9 wl_X6_106 wi_yX9_put we_yX9_put hd_yX9_put rfl ⟨Nat.le_of_ble_eq_true rfl, Nat.le_of_ble_eq_true rfl⟩ (Nat.le_of_ble_eq_true rfl) ⟨Nat.le_of_ble_eq_true rfl, Nat.le_of_ble_eq_true rfl⟩ dX6_number_70 (fun V207 h207 => ?_)
      obtain ⟨hI207, hx207_0, hBc207, hFc207⟩ := h207
      replace hF := calUX_i hF hFc207 hBc207
      have hB207 := hB161.tr hBc207 (fun i k h => (Or.inr (⟨by omega, by omega⟩)))
      refine x_iconst C.1 (n := 1) dX6_number_73 ?_
      exact x_zret (S := (Nat → Nat → Int)) (post := (fun a (u : Nat → Nat → Int) => TI G u ∧ (0 ≤ a ∧ a ≤ 1) ∧ u 72 4 = V 72 4 ∧ FB (fun i k : Nat => (72 ≤ i ∧ i ≤ 72) ∨ (Rr 72 1 ≤ i ∧ i ≤ Rr 72 1 + 4)) V u ∧ (f_r_number V J Rr) (a, u))) (w1 := (fun u : Nat → Nat → Int => XW cy ad u J Rr)) (a := 1) C hr rfl dX6_number_74 (by decide) V207 rfl ⟨hI207, ⟨by decide, by decide⟩, ((hx207_0.trans hk160_0).trans ez1.symm), hB207, hF _ rfl⟩
    · replace hF := hF.to (if_neg hc205)
      refine x_aload_n C.1 dX6_number_58 2 rfl ?_
      refine x_iconst C.1 (n := 2) dX6_number_59 ?_
      refine x_callVi C (As := [vI 2]) (rest := []) 72 (xw_at (N := 129) (i := 72) (by decide) rfl) vc_X6 (r_fail l D cy ad G V161 J Rr hI161 hJ hR 2 ⟨by decide, by decide⟩) (l1 := []) (l2 := []) (List.append_nil _).symm (w2 := fun u : Nat → Nat → Int => XW cy ad u J Rr) (fun _ => List.append_nil _) rfl wm_yX6_fail wn_X6 wl_X6_58 wi_yX6_fail we_yX6_fail hd_yX6_fail rfl ⟨Nat.le_of_ble_eq_true rfl, Nat.le_of_ble_eq_true rfl⟩ (Nat.le_of_ble_eq_true rfl) ⟨Nat.le_of_ble_eq_true rfl, Nat.le_of_ble_eq_true rfl⟩ dX6_number_60 (fun z208 V208 bz208 h208 => ?_)
      obtain ⟨hI208, bq208, hx208_0, hBc208, hFc208⟩ := h208
      replace hF := calVX_i hF hFc208 hBc208
      replace hF := hF.fc bq208
      have hB208 := hB161.tr hBc208 (fun i k h => (Or.inl h))
      exact x_zret (S := (Nat → Nat → Int)) (post := (fun a (u : Nat → Nat → Int) => TI G u ∧ (0 ≤ a ∧ a ≤ 1) ∧ u 72 4 = V 72 4 ∧ FB (fun i k : Nat => (72 ≤ i ∧ i ≤ 72) ∨ (Rr 72 1 ≤ i ∧ i ≤ Rr 72 1 + 4)) V u ∧ (f_r_number V J Rr) (a, u))) (w1 := (fun u : Nat → Nat → Int => XW cy ad u J Rr)) (a := z208) C hr rfl dX6_number_63 (by omega) V208 rfl ⟨hI208, ⟨by omega, by omega⟩, ((hx208_0.trans hk160_0).trans ez1.symm), hB208, hF _ rfl⟩
  · refine x_icmp_ge C.1 (tgt := 48) dX6_number_6 (by decide) (by omega) (by decide) (fun hc209 => ?_) (fun hc209 => ?_)
    · replace hF := hF.to (if_pos hc209)
      exact jn202 (()) ⟨trivial, hF⟩
    · replace hF := hF.to (if_neg hc209)
      refine x_aload_n C.1 dX6_number_9 2 rfl ?_
      refine x_callVi C (As := []) (rest := []) 72 (xw_at (N := 129) (i := 72) (by decide) rfl) vc_X6 (r_peek l D cy ad G V161 J Rr hI161 hJ hR ) (l1 := []) (l2 := []) (List.append_nil _).symm (w2 := fun _ => XW cy ad V161 J Rr) (fun _ => List.append_nil _) rfl wm_yX6_peek wn_X6 wl_X6_54 wi_yX6_peek we_yX6_peek hd_yX6_peek rfl ⟨Nat.le_of_ble_eq_true rfl, Nat.le_of_ble_eq_true rfl⟩ (Nat.le_of_ble_eq_true rfl) ⟨Nat.le_of_ble_eq_true rfl, Nat.le_of_ble_eq_true rfl⟩ dX6_number_10 (fun z210 u210 bz210 h210 => ?_)
      have hFc210 := h210
      replace hF := calR_i hF hFc210
      refine x_callSi C (As := [vI z210]) (rest := []) (r_isDigit l D cy z210 ⟨by omega, by omega⟩) (l1 := []) (l2 := _) rfl (w2 := fun _ => _) (fun _ => rfl) rfl wm_yX6_isDigit wn_X6 wl_X6_119 wi_yX6_isDigit hd_yX6_isDigit rfl ⟨Nat.le_of_ble_eq_true rfl, Nat.le_of_ble_eq_true rfl⟩ (Nat.le_of_ble_eq_true rfl) ⟨Nat.le_of_ble_eq_true rfl, Nat.le_of_ble_eq_true rfl⟩ dX6_number_13 (fun z211 u211 bz211 h211 => ?_)
      obtain ⟨bq211, hFc211⟩ := h211
      replace hF := calR_i hF hFc211
      replace hF := hF.fc bq211
      refine x_if_eq C.1 (tgt := 48) dX6_number_16 (by decide) (by omega) (fun hc212 => ?_) (fun hc212 => ?_)
      · replace hF := hF.to (if_pos hc212)
        exact jn202 (()) ⟨trivial, hF⟩
      · replace hF := hF.to (if_neg hc212)
        refine x_iload_n C.1 dX6_number_19 1 rfl ?_
        refine x_bipush C.1 (n := 10) dX6_number_20 ?_
        refine x_imul C.1 (v := 10 * z159) (by omega) dX6_number_22 ?_
        refine x_wrapg ?_
        intro z213 bz213 ew213
        replace hF := hF.to (rdb_e (z := z213) ew213.symm)
        refine x_aload_n C.1 dX6_number_23 2 rfl ?_
        refine x_callVi C (As := []) (rest := [vI z213]) 72 (xw_at (N := 129) (i := 72) (by decide) rfl) vc_X6 (r_peek l D cy ad G V161 J Rr hI161 hJ hR ) (l1 := []) (l2 := []) (List.append_nil _).symm (w2 := fun _ => XW cy ad V161 J Rr) (fun _ => List.append_nil _) rfl wm_yX6_peek wn_X6 wl_X6_54 wi_yX6_peek we_yX6_peek hd_yX6_peek rfl ⟨Nat.le_of_ble_eq_true rfl, Nat.le_of_ble_eq_true rfl⟩ (Nat.le_of_ble_eq_true rfl) ⟨Nat.le_of_ble_eq_true rfl, Nat.le_of_ble_eq_true rfl⟩ dX6_number_24 (fun z214 u214 bz214 h214 => ?_)
        have hFc214 := h214
        replace hF := calR_i hF hFc214
        refine x_iadd C.1 (v := z213 + z214) (by omega) dX6_number_27 ?_
        refine x_wrapg ?_
        intro z215 bz215 ew215
        replace hF := hF.to (rdb_e (z := z215) ew215.symm)
        refine x_bipush C.1 (n := 48) dX6_number_28 ?_
        refine x_isub C.1 (v := z215 - 48) (by omega) dX6_number_30 ?_
        refine x_wrapg ?_
        intro z216 bz216 ew216
        replace hF := hF.to (rdb_e (z := z216) ew216.symm)
        refine x_istore_n C.1 (lv' := [(1, vI z216), (2, vI z158), (0, .ref (ad 72))]) dX6_number_31 (by decide) rfl ?_
        refine x_aload_n C.1 dX6_number_32 2 rfl ?_
        refine x_dup C.1 dX6_number_33 rfl ?_
        obtain ⟨z217, ez217, bz217⟩ := hI161.rd 72 2 (x := -2147483648) (y := 2147483647) rfl
        replace hF := hF.to (rdb_e (z := z217) ez217)
        refine x_getI C (N := 129) (i := 72) (by decide) rfl vc_X6 wx_X6 2 (by decide) wf_X6_22 rfl dX6_number_34 (a := z217) ez217 ?_
        refine x_iconst C.1 (n := 1) dX6_number_37 ?_
        refine x_iadd C.1 (v := z217 + 1) (by omega) dX6_number_38 ?_
        refine x_wrapg ?_
        intro z218 bz218 ew218
        replace hF := hF.to (rdb_e (z := z218) ew218.symm)
        refine x_putI C (N := 129) (i := 72) (by decide) rfl vc_X6 wx_X6 2 (by decide) wf_X6_22 tyX6 tyX6_ok nmX6 rfl (tyX6_ok 2 (by decide)) rfl dX6_number_39 rfl rfl ?_
        refine x_gV ?_
        intro V219 hV219
        have hI219 : TI G V219 := hI161.up hV219 rfl (by omega) rfl
        have hB219 := hB161.up hV219 (Or.inl (⟨by decide, by decide⟩))
        replace hF := hF.to (rdb_e (z := V219) hV219.symm)
        refine x_iinc C.1 (v := z158 + 1) (lv' := [(2, vI (z158 + 1)), (1, vI z216), (0, .ref (ad 72))]) (by omega) dX6_number_42 1 rfl (by decide) rfl ?_
        refine x_goto C.1 (tgt := 4) dX6_number_45 (by decide) ?_
        have hmu161 : (6 - (z158 + 1)).toNat < (6 - z158).toNat := (by omega)
        exact ih161 (z158 + 1, z216, V219) ⟨⟨by omega, by omega⟩, ⟨by omega, by omega⟩, hI219, hB219, ((congrFun (congrFun hV219 72) 4).trans ((up2_n _ _ (Or.inr (by decide))).trans hk160_0)), ⟨nf161, Nat.lt_of_lt_of_le hmu161 (Nat.le_of_lt_succ hn161), hF⟩⟩ hmu161
