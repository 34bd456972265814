section
theorem dX8_hasRoom_0 : decode cX8_hasRoom 0 = .ok (.aload_n 0, 1) := by decide +kernel
theorem dX8_hasRoom_1 : decode cX8_hasRoom 1 = .ok (.getfield 15, 3) := by decide +kernel
theorem dX8_hasRoom_4 : decode cX8_hasRoom 4 = .ok (.iload_n 1, 1) := by decide +kernel
theorem dX8_hasRoom_5 : decode cX8_hasRoom 5 = .ok (.iadd, 1) := by decide +kernel
theorem dX8_hasRoom_6 : decode cX8_hasRoom 6 = .ok (.sipush 220, 3) := by decide +kernel
theorem dX8_hasRoom_9 : decode cX8_hasRoom 9 = .ok (.if_icmp .gt 7, 3) := by decide +kernel
theorem dX8_hasRoom_12 : decode cX8_hasRoom 12 = .ok (.iconst 1, 1) := by decide +kernel
theorem dX8_hasRoom_13 : decode cX8_hasRoom 13 = .ok (.goto 4, 3) := by decide +kernel
theorem dX8_hasRoom_16 : decode cX8_hasRoom 16 = .ok (.iconst 0, 1) := by decide +kernel
theorem dX8_hasRoom_17 : decode cX8_hasRoom 17 = .ok (.ireturn, 1) := by decide +kernel
set_option maxRecDepth 100000 in
def f_s_hasRoom (x1 : Int) (V : Nat → Nat → Int) (J : Nat → Nat → Int) (Rr : Nat → Nat → Nat) : (Int) → Prop :=
  rdb (V 58 1) fun z1 => fct (0 ≤ z1 ∧ z1 ≤ 220) <| rdb (wr (z1 + x1)) fun z2 => (if 220 < z2 then rtn 0 else rtn 1)
set_option maxHeartbeats 8000000 in
set_option maxRecDepth 100000 in
theorem s_hasRoom (l : Launch) (D : va_G) (cy : Nat → ClassId) (ad : Nat → Nat) (G : Nat → Nat → Int) (V J : Nat → Nat → Int) (Rr : Nat → Nat → Nat) (hI : XI G V) (hJ : VJ J) (hR : XR Rr) (x1 : Int) (bx1 : -2147483648 ≤ x1 ∧ x1 ≤ 2147483647) : xMi l D (xTY cy) yX8_hasRoom cX8_hasRoom 2 (some .boolean) 0 0 0 0 [.ref (ad 58), vI x1] (XW cy ad V J Rr) (fun _ : Unit => XW cy ad V J Rr) (fun a (u : Unit) => (0 ≤ a ∧ a ≤ 1) ∧ (f_s_hasRoom x1 V J Rr) a) := by
  refine xMi.mk (lv0 := [(0, .ref (ad 58)), (1, vI x1)]) (by decide) rfl (Nat.le_of_ble_eq_true rfl) (fun p e s m below meth c A C hr hnm hAe => ?_)
  have C : xC2 p s m _ meth c D A s.heap 2 cX8_hasRoom RX8 (xTY cy) := C
  have hF := Imp.of_eq (f_s_hasRoom.eq_def x1 V J Rr)
  refine x_aload_n C.1 dX8_hasRoom_0 0 rfl ?_
  obtain ⟨z1, ez1, bz1⟩ := hI.rd 58 1 (x := 0) (y := 220) rfl
  replace hF := hF.to (rdb_e (z := z1) ez1)
  replace hF := hF.fc bz1
  refine x_getI C (N := 129) (i := 58) (by decide) rfl vc_X8 wx_X8 1 (by decide) wf_X8_15 rfl dX8_hasRoom_1 (a := z1) ez1 ?_
  refine x_iload_n C.1 dX8_hasRoom_4 1 rfl ?_
  refine x_iadd C.1 (v := z1 + x1) (by omega) dX8_hasRoom_5 ?_
  refine x_wrapg ?_
  intro z2 bz2 ew2
  replace hF := hF.to (rdb_e (z := z2) ew2.symm)
  refine x_sipush C.1 (n := 220) dX8_hasRoom_6 ?_
  refine x_icmp_gt C.1 (tgt := 16) dX8_hasRoom_9 (by decide) (by omega) (by decide) (fun hc3 => ?_) (fun hc3 => ?_)
  · replace hF := hF.to (if_pos hc3)
    refine x_iconst C.1 (n := 0) dX8_hasRoom_16 ?_
    exact x_zret (S := Unit) (post := (fun a (u : Unit) => (0 ≤ a ∧ a ≤ 1) ∧ (f_s_hasRoom x1 V J Rr) a)) (w1 := (fun _ : Unit => XW cy ad V J Rr)) (a := 0) C hr rfl dX8_hasRoom_17 (by decide) () rfl ⟨⟨by decide, by decide⟩, hF _ rfl⟩
  · replace hF := hF.to (if_neg hc3)
    refine x_iconst C.1 (n := 1) dX8_hasRoom_12 ?_
    refine x_goto C.1 (tgt := 17) dX8_hasRoom_13 (by decide) ?_
    exact x_zret (S := Unit) (post := (fun a (u : Unit) => (0 ≤ a ∧ a ≤ 1) ∧ (f_s_hasRoom x1 V J Rr) a)) (w1 := (fun _ : Unit => XW cy ad V J Rr)) (a := 1) C hr rfl dX8_hasRoom_17 (by decide) () rfl ⟨⟨by decide, by decide⟩, hF _ rfl⟩
theorem dX8_add_0 : decode cX8_add 0 = .ok (.bipush 24, 2) := by decide +kernel
theorem dX8_add_2 : decode cX8_add 2 = .ok (.istore_n 2, 1) := by decide +kernel
theorem dX8_add_3 : decode cX8_add 3 = .ok (.iload_n 2, 1) := by decide +kernel
theorem dX8_add_4 : decode cX8_add 4 = .ok (.ifCond .lt 45, 3) := by decide +kernel
theorem dX8_add_7 : decode cX8_add 7 = .ok (.aload_n 0, 1) := by decide +kernel
theorem dX8_add_8 : decode cX8_add 8 = .ok (.getfield 15, 3) := by decide +kernel
theorem dX8_add_11 : decode cX8_add 11 = .ok (.sipush 220, 3) := by decide +kernel
theorem dX8_add_14 : decode cX8_add 14 = .ok (.if_icmp .ge 35, 3) := by decide +kernel
theorem dX8_add_17 : decode cX8_add 17 = .ok (.aload_n 0, 1) := by decide +kernel
theorem dX8_add_18 : decode cX8_add 18 = .ok (.getfield 11, 3) := by decide +kernel
theorem dX8_add_21 : decode cX8_add 21 = .ok (.aload_n 0, 1) := by decide +kernel
theorem dX8_add_22 : decode cX8_add 22 = .ok (.getfield 15, 3) := by decide +kernel
theorem dX8_add_25 : decode cX8_add 25 = .ok (.iload_n 1, 1) := by decide +kernel
theorem dX8_add_26 : decode cX8_add 26 = .ok (.iload_n 2, 1) := by decide +kernel
theorem dX8_add_27 : decode cX8_add 27 = .ok (.ishr, 1) := by decide +kernel
theorem dX8_add_28 : decode cX8_add 28 = .ok (.sipush 255, 3) := by decide +kernel
theorem dX8_add_31 : decode cX8_add 31 = .ok (.iand, 1) := by decide +kernel
theorem dX8_add_32 : decode cX8_add 32 = .ok (.iastore, 1) := by decide +kernel
theorem dX8_add_33 : decode cX8_add 33 = .ok (.aload_n 0, 1) := by decide +kernel
theorem dX8_add_34 : decode cX8_add 34 = .ok (.dup, 1) := by decide +kernel
theorem dX8_add_35 : decode cX8_add 35 = .ok (.getfield 15, 3) := by decide +kernel
theorem dX8_add_38 : decode cX8_add 38 = .ok (.iconst 1, 1) := by decide +kernel
theorem dX8_add_39 : decode cX8_add 39 = .ok (.iadd, 1) := by decide +kernel
theorem dX8_add_40 : decode cX8_add 40 = .ok (.putfield 15, 3) := by decide +kernel
theorem dX8_add_43 : decode cX8_add 43 = .ok (.iinc 2 (-8), 3) := by decide +kernel
theorem dX8_add_46 : decode cX8_add 46 = .ok (.goto (-43), 3) := by decide +kernel
theorem dX8_add_49 : decode cX8_add 49 = .ok (.return_, 1) := by decide +kernel
set_option maxRecDepth 100000 in
def f_s_add (x1 : Int) (V : Nat → Nat → Int) (J : Nat → Nat → Int) (Rr : Nat → Nat → Nat) : (Nat → Nat → Int) → Prop :=
  lop2 (34) (fun rc45 (z44 : Int) (V45 : Nat → Nat → Int) => (if z44 < 0 then rtn V45 else rdb (V45 58 1) fun z54 => fct (0 ≤ z54 ∧ z54 ≤ 220) <| (if 220 ≤ z54 then rtn V45 else rdb (iShr x1 z44) fun z56 => rdb (iAnd z56 255) fun z57 => fct (0 ≤ z57 ∧ z57 ≤ 255) <| rdb (up2 V45 59 z54.toNat z57) fun V58 => rdb (up2 V58 58 1 (z54 + 1)) fun V59 => rc45 (z44 - 8) V59))) 24 V
set_option maxHeartbeats 8000000 in
set_option maxRecDepth 100000 in
theorem s_add (l : Launch) (D : va_G) (cy : Nat → ClassId) (ad : Nat → Nat) (G : Nat → Nat → Int) (V J : Nat → Nat → Int) (Rr : Nat → Nat → Nat) (hI : XI G V) (hJ : VJ J) (hR : XR Rr) (x1 : Int) (bx1 : -2147483648 ≤ x1 ∧ x1 ≤ 2147483647) : xMv l D (xTY cy) yX8_add cX8_add 3 none 0 0 0 0 [.ref (ad 58), vI x1] (XW cy ad V J Rr) (fun u : Nat → Nat → Int => XW cy ad u J Rr) (fun u : Nat → Nat → Int => XI G u ∧ FB (fun i k : Nat => (58 ≤ i ∧ i ≤ 59)) V u ∧ (f_s_add x1 V J Rr) u) := by
  refine xMv.mk (lv0 := [(0, .ref (ad 58)), (1, vI x1)]) (by decide) rfl (Nat.le_of_ble_eq_true rfl) (fun p e s m below meth c A C hr hnm hAe => ?_)
  have C : xC2 p s m _ meth c D A s.heap 3 cX8_add RX8 (xTY cy) := C
  have hB : FB (fun i k : Nat => (58 ≤ i ∧ i ≤ 59)) V V := FB.rf _ _
  have hF := Imp.of_eq (f_s_add.eq_def x1 V J Rr)
  refine x_bipush C.1 (n := 24) dX8_add_0 ?_
  refine x_istore_n C.1 (lv' := [(2, vI 24), (0, .ref (ad 58)), (1, vI x1)]) dX8_add_2 (by decide) rfl ?_
  obtain ⟨bd45, hbd45, hF⟩ := lop2_ex hF
  refine x_loop (I := fun x : Int × (Nat → Nat → Int) => match x with | (z44, V45) => (-8 ≤ z44 ∧ z44 ≤ 24) ∧ XI G V45 ∧ FB (fun i k : Nat => (58 ≤ i ∧ i ≤ 59)) V V45 ∧ (∃ nf : Nat, (z44 - (-9)).toNat < nf ∧ Imp (lop2 nf bd45 z44 V45) (f_s_add x1 V J Rr))) (μ := fun x : Int × (Nat → Nat → Int) => match x with | (z44, V45) => (z44 - (-9)).toNat) (wsf := fun x : Int × (Nat → Nat → Int) => match x with | (z44, V45) => XW cy ad V45 J Rr) (lvf := fun x : Int × (Nat → Nat → Int) => match x with | (z44, V45) => [(2, vI z44), (0, .ref (ad 58)), (1, vI x1)]) (fun x hI45x ih45 => ?_) (24, V) ⟨⟨by decide, by decide⟩, hI, hB, ⟨_, (by omega), hF⟩⟩ rfl rfl
  obtain ⟨z44, V45⟩ := x
  obtain ⟨bz44, hI45, hB45, nf45, hn45, hF⟩ := hI45x
  try dsimp only
  obtain ⟨nf45, rfl⟩ : ∃ mm, nf45 = mm + 1 := ⟨nf45 - 1, (Nat.succ_pred_eq_of_pos (Nat.lt_of_le_of_lt (Nat.zero_le _) hn45)).symm⟩
  replace hF := hF.to (lop2_s hbd45)
  refine x_iload_n C.1 dX8_add_3 0 rfl ?_
  refine x_if_lt C.1 (tgt := 49) dX8_add_4 (by decide) (by omega) (fun hc53 => ?_) (fun hc53 => ?_)
  · replace hF := hF.to (if_pos hc53)
    exact x_vret (S := (Nat → Nat → Int)) (post := (fun u : Nat → Nat → Int => XI G u ∧ FB (fun i k : Nat => (58 ≤ i ∧ i ≤ 59)) V u ∧ (f_s_add x1 V J Rr) u)) (w1 := (fun u : Nat → Nat → Int => XW cy ad u J Rr)) C hr rfl dX8_add_49 V45 rfl ⟨hI45, hB45, hF _ rfl⟩
  · replace hF := hF.to (if_neg hc53)
    refine x_aload_n C.1 dX8_add_7 1 rfl ?_
    obtain ⟨z54, ez54, bz54⟩ := hI45.rd 58 1 (x := 0) (y := 220) rfl
    replace hF := hF.to (rdb_e (z := z54) ez54)
    replace hF := hF.fc bz54
    refine x_getI C (N := 129) (i := 58) (by decide) rfl vc_X8 wx_X8 1 (by decide) wf_X8_15 rfl dX8_add_8 (a := z54) ez54 ?_
    refine x_sipush C.1 (n := 220) dX8_add_11 ?_
    refine x_icmp_ge C.1 (tgt := 49) dX8_add_14 (by decide) (by omega) (by decide) (fun hc55 => ?_) (fun hc55 => ?_)
    · replace hF := hF.to (if_pos hc55)
      exact x_vret (S := (Nat → Nat → Int)) (post := (fun u : Nat → Nat → Int => XI G u ∧ FB (fun i k : Nat => (58 ≤ i ∧ i ≤ 59)) V u ∧ (f_s_add x1 V J Rr) u)) (w1 := (fun u : Nat → Nat → Int => XW cy ad u J Rr)) C hr rfl dX8_add_49 V45 rfl ⟨hI45, hB45, hF _ rfl⟩
    · replace hF := hF.to (if_neg hc55)
      refine x_aload_n C.1 dX8_add_17 1 rfl ?_
      refine x_getA C (N := 129) (i := 58) (by decide) rfl vc_X8 wx_X8 0 (by decide) wf_X8_11 (a := 59) rfl dX8_add_18 ?_
      refine x_aload_n C.1 dX8_add_21 1 rfl ?_
      refine x_getI C (N := 129) (i := 58) (by decide) rfl vc_X8 wx_X8 1 (by decide) wf_X8_15 rfl dX8_add_22 (a := z54) ez54 ?_
      refine x_iload_n C.1 dX8_add_25 2 rfl ?_
      refine x_iload_n C.1 dX8_add_26 0 rfl ?_
      obtain ⟨z56, hz56, bz56⟩ : ∃ z : Int, iShr x1 z44 = z ∧ (-2147483648 ≤ z ∧ z ≤ 2147483647) := ⟨_, rfl, xi_r _⟩
      replace hF := hF.to (rdb_e (z := z56) hz56)
      refine x_ishr C.1 (v := z56) hz56 dX8_add_27 ?_
      refine x_sipush C.1 (n := 255) dX8_add_28 ?_
      obtain ⟨z57, hz57, bz57⟩ : ∃ z : Int, iAnd z56 255 = z ∧ (0 ≤ z ∧ z ≤ 255) := ⟨_, rfl, iAnd_leB _ (by decide)⟩
      replace hF := hF.to (rdb_e (z := z57) hz57)
      replace hF := hF.fc bz57
      refine x_iand C.1 (v := z57) hz57 dX8_add_31 ?_
      refine x_iast C (N := 129) (i := 59) (q := z54) (a := z57) (by decide) rfl (by omega) (by decide) dX8_add_32 ?_
      refine x_gV ?_
      intro V58 hV58
      have hI58 : XI G V58 := hI45.up hV58 rfl (by omega) rfl
      have hB58 := hB45.up hV58 (⟨by decide, by decide⟩)
      replace hF := hF.to (rdb_e (z := V58) hV58.symm)
      refine x_aload_n C.1 dX8_add_33 1 rfl ?_
      refine x_dup C.1 dX8_add_34 rfl ?_
      refine x_getI C (N := 129) (i := 58) (by decide) rfl vc_X8 wx_X8 1 (by decide) wf_X8_15 rfl dX8_add_35 (a := z54) ((congrFun (congrFun hV58 58) 1).trans ((up2_n _ _ (Or.inl (by decide))).trans ez54)) ?_
      refine x_iconst C.1 (n := 1) dX8_add_38 ?_
      refine x_iadd C.1 (v := z54 + 1) (by omega) dX8_add_39 ?_
      refine x_putI C (N := 129) (i := 58) (by decide) rfl vc_X8 wx_X8 1 (by decide) wf_X8_15 tyX8 tyX8_ok nmX8 rfl (tyX8_ok 1 (by decide)) rfl dX8_add_40 rfl rfl ?_
      refine x_gV ?_
      intro V59 hV59
      have hI59 : XI G V59 := hI58.up hV59 rfl (by omega) rfl
      have hB59 := hB58.up hV59 (⟨by decide, by decide⟩)
      replace hF := hF.to (rdb_e (z := V59) hV59.symm)
      refine x_iinc C.1 (v := z44 - 8) (lv' := [(2, vI (z44 - 8)), (0, .ref (ad 58)), (1, vI x1)]) (by omega) dX8_add_43 0 rfl (by decide) rfl ?_
      refine x_goto C.1 (tgt := 3) dX8_add_46 (by decide) ?_
      have hmu45 : ((z44 - 8) - (-9)).toNat < (z44 - (-9)).toNat := (by omega)
      exact ih45 (z44 - 8, V59) ⟨⟨by omega, by omega⟩, hI59, hB59, ⟨nf45, Nat.lt_of_lt_of_le hmu45 (Nat.le_of_lt_succ hn45), hF⟩⟩ hmu45
theorem dX8_at_0 : decode cX8_at 0 = .ok (.iload_n 1, 1) := by decide +kernel
theorem dX8_at_1 : decode cX8_at 1 = .ok (.ifCond .lt 27, 3) := by decide +kernel
theorem dX8_at_4 : decode cX8_at 4 = .ok (.iload_n 1, 1) := by decide +kernel
theorem dX8_at_5 : decode cX8_at 5 = .ok (.aload_n 0, 1) := by decide +kernel
theorem dX8_at_6 : decode cX8_at 6 = .ok (.getfield 15, 3) := by decide +kernel
theorem dX8_at_9 : decode cX8_at 9 = .ok (.if_icmp .ge 19, 3) := by decide +kernel
theorem dX8_at_12 : decode cX8_at 12 = .ok (.iload_n 1, 1) := by decide +kernel
theorem dX8_at_13 : decode cX8_at 13 = .ok (.sipush 220, 3) := by decide +kernel
theorem dX8_at_16 : decode cX8_at 16 = .ok (.if_icmp .ge 12, 3) := by decide +kernel
theorem dX8_at_19 : decode cX8_at 19 = .ok (.aload_n 0, 1) := by decide +kernel
theorem dX8_at_20 : decode cX8_at 20 = .ok (.getfield 11, 3) := by decide +kernel
theorem dX8_at_23 : decode cX8_at 23 = .ok (.iload_n 1, 1) := by decide +kernel
theorem dX8_at_24 : decode cX8_at 24 = .ok (.iaload, 1) := by decide +kernel
theorem dX8_at_25 : decode cX8_at 25 = .ok (.goto 4, 3) := by decide +kernel
theorem dX8_at_28 : decode cX8_at 28 = .ok (.iconst (-1), 1) := by decide +kernel
theorem dX8_at_29 : decode cX8_at 29 = .ok (.ireturn, 1) := by decide +kernel
set_option maxRecDepth 100000 in
def f_s_at (x1 : Int) (V : Nat → Nat → Int) (J : Nat → Nat → Int) (Rr : Nat → Nat → Nat) : (Int) → Prop :=
  (if x1 < 0 then rtn ((-1)) else rdb (V 58 1) fun z2 => fct (0 ≤ z2 ∧ z2 ≤ 220) <| (if z2 ≤ x1 then rtn ((-1)) else rdb (V 59 x1.toNat) fun z4 => rtn z4))
set_option maxHeartbeats 8000000 in
set_option maxRecDepth 100000 in
theorem s_at (l : Launch) (D : va_G) (cy : Nat → ClassId) (ad : Nat → Nat) (G : Nat → Nat → Int) (V J : Nat → Nat → Int) (Rr : Nat → Nat → Nat) (hI : XI G V) (hJ : VJ J) (hR : XR Rr) (x1 : Int) (bx1 : -2147483648 ≤ x1 ∧ x1 ≤ 2147483647) : xMi l D (xTY cy) yX8_at cX8_at 2 (some .int) 0 0 0 0 [.ref (ad 58), vI x1] (XW cy ad V J Rr) (fun _ : Unit => XW cy ad V J Rr) (fun a (u : Unit) => (f_s_at x1 V J Rr) a) := by
  refine xMi.mk (lv0 := [(0, .ref (ad 58)), (1, vI x1)]) (by decide) rfl (Nat.le_of_ble_eq_true rfl) (fun p e s m below meth c A C hr hnm hAe => ?_)
  have C : xC2 p s m _ meth c D A s.heap 2 cX8_at RX8 (xTY cy) := C
  have hF := Imp.of_eq (f_s_at.eq_def x1 V J Rr)
  refine x_iload_n C.1 dX8_at_0 1 rfl ?_
  refine x_if_lt C.1 (tgt := 28) dX8_at_1 (by decide) (by omega) (fun hc1 => ?_) (fun hc1 => ?_)
  · replace hF := hF.to (if_pos hc1)
    refine x_iconst C.1 (n := -1) dX8_at_28 ?_
    exact x_iret (S := Unit) (post := (fun a (u : Unit) => (f_s_at x1 V J Rr) a)) (w1 := (fun _ : Unit => XW cy ad V J Rr)) (a := (-1)) C hr rfl dX8_at_29 (by decide) () rfl (hF _ rfl)
  · replace hF := hF.to (if_neg hc1)
    refine x_iload_n C.1 dX8_at_4 1 rfl ?_
    refine x_aload_n C.1 dX8_at_5 0 rfl ?_
    obtain ⟨z2, ez2, bz2⟩ := hI.rd 58 1 (x := 0) (y := 220) rfl
    replace hF := hF.to (rdb_e (z := z2) ez2)
    replace hF := hF.fc bz2
    refine x_getI C (N := 129) (i := 58) (by decide) rfl vc_X8 wx_X8 1 (by decide) wf_X8_15 rfl dX8_at_6 (a := z2) ez2 ?_
    refine x_icmp_ge C.1 (tgt := 28) dX8_at_9 (by decide) (by omega) (by omega) (fun hc3 => ?_) (fun hc3 => ?_)
    · replace hF := hF.to (if_pos hc3)
      refine x_iconst C.1 (n := -1) dX8_at_28 ?_
      exact x_iret (S := Unit) (post := (fun a (u : Unit) => (f_s_at x1 V J Rr) a)) (w1 := (fun _ : Unit => XW cy ad V J Rr)) (a := (-1)) C hr rfl dX8_at_29 (by decide) () rfl (hF _ rfl)
    · replace hF := hF.to (if_neg hc3)
      refine x_iload_n C.1 dX8_at_12 1 rfl ?_
      refine x_sipush C.1 (n := 220) dX8_at_13 ?_
      refine x_icmp_ge_f C.1 (tgt := 28) dX8_at_16 (by decide) (by omega) (by decide) (by omega) ?_
      refine x_aload_n C.1 dX8_at_19 0 rfl ?_
      refine x_getA C (N := 129) (i := 58) (by decide) rfl vc_X8 wx_X8 0 (by decide) wf_X8_11 (a := 59) rfl dX8_at_20 ?_
      refine x_iload_n C.1 dX8_at_23 1 rfl ?_
      obtain ⟨z4, ez4, bz4⟩ := hI.rd 59 x1.toNat (x := -2147483648) (y := 2147483647) rfl
      replace hF := hF.to (rdb_e (z := z4) ez4)
      refine x_iald C (N := 129) (i := 59) (q := x1) (by decide) rfl (by omega) (by decide) dX8_at_24 (a := z4) ez4 ?_
      refine x_goto C.1 (tgt := 29) dX8_at_25 (by decide) ?_
      exact x_iret (S := Unit) (post := (fun a (u : Unit) => (f_s_at x1 V J Rr) a)) (w1 := (fun _ : Unit => XW cy ad V J Rr)) (a := z4) C hr rfl dX8_at_29 (by omega) () rfl (hF _ rfl)
theorem hd_yX8_at : yX8_at.cls ≠ "java/lang/invoke/MethodHandle" ∧ yX8_at.cls ≠ "java/lang/invoke/VarHandle" ∧ (parseMethodDescriptor yX8_at.desc).map (fun d => d.parameters.length) = some 1 := by decide +kernel
theorem dX8_number_0 : decode cX8_number 0 = .ok (.iconst 0, 1) := by decide +kernel
theorem dX8_number_1 : decode cX8_number 1 = .ok (.istore_n 2, 1) := by decide +kernel
theorem dX8_number_2 : decode cX8_number 2 = .ok (.iconst 0, 1) := by decide +kernel
theorem dX8_number_3 : decode cX8_number 3 = .ok (.istore_n 3, 1) := by decide +kernel
theorem dX8_number_4 : decode cX8_number 4 = .ok (.iload_n 3, 1) := by decide +kernel
theorem dX8_number_5 : decode cX8_number 5 = .ok (.iconst 4, 1) := by decide +kernel
theorem dX8_number_6 : decode cX8_number 6 = .ok (.if_icmp .ge 28, 3) := by decide +kernel
theorem dX8_number_9 : decode cX8_number 9 = .ok (.iload_n 2, 1) := by decide +kernel
theorem dX8_number_10 : decode cX8_number 10 = .ok (.bipush 8, 2) := by decide +kernel
theorem dX8_number_12 : decode cX8_number 12 = .ok (.ishl, 1) := by decide +kernel
theorem dX8_number_13 : decode cX8_number 13 = .ok (.aload_n 0, 1) := by decide +kernel
theorem dX8_number_14 : decode cX8_number 14 = .ok (.iconst 4, 1) := by decide +kernel
theorem dX8_number_15 : decode cX8_number 15 = .ok (.iload_n 1, 1) := by decide +kernel
theorem dX8_number_16 : decode cX8_number 16 = .ok (.imul, 1) := by decide +kernel
theorem dX8_number_17 : decode cX8_number 17 = .ok (.iload_n 3, 1) := by decide +kernel
theorem dX8_number_18 : decode cX8_number 18 = .ok (.iadd, 1) := by decide +kernel
theorem dX8_number_19 : decode cX8_number 19 = .ok (.invokevirtual 19, 3) := by decide +kernel
theorem dX8_number_22 : decode cX8_number 22 = .ok (.sipush 255, 3) := by decide +kernel
theorem dX8_number_25 : decode cX8_number 25 = .ok (.iand, 1) := by decide +kernel
theorem dX8_number_26 : decode cX8_number 26 = .ok (.ior, 1) := by decide +kernel
theorem dX8_number_27 : decode cX8_number 27 = .ok (.istore_n 2, 1) := by decide +kernel
theorem dX8_number_28 : decode cX8_number 28 = .ok (.iinc 3 1, 3) := by decide +kernel
theorem dX8_number_31 : decode cX8_number 31 = .ok (.goto (-27), 3) := by decide +kernel
theorem dX8_number_34 : decode cX8_number 34 = .ok (.iload_n 2, 1) := by decide +kernel
theorem dX8_number_35 : decode cX8_number 35 = .ok (.ireturn, 1) := by decide +kernel
set_option maxRecDepth 100000 in
def f_s_number (x1 : Int) (V : Nat → Nat → Int) (J : Nat → Nat → Int) (Rr : Nat → Nat → Nat) : (Int) → Prop :=
  lop2 (6) (fun rc49 (z47 : Int) (z48 : Int) => (if 4 ≤ z47 then rtn z48 else rdb (iShl z48 8) fun z58 => rdb (wr (4 * x1)) fun z59 => rdb (wr (z59 + z47)) fun z60 => calR (f_s_at z60 V J Rr) fun z61 => rdb (iAnd z61 255) fun z62 => fct (0 ≤ z62 ∧ z62 ≤ 255) <| rdb (iOr z58 z62) fun z63 => rc49 (z47 + 1) z63)) 0 0
set_option maxHeartbeats 8000000 in
set_option maxRecDepth 100000 in
theorem s_number (l : Launch) (D : va_G) (cy : Nat → ClassId) (ad : Nat → Nat) (G : Nat → Nat → Int) (V J : Nat → Nat → Int) (Rr : Nat → Nat → Nat) (hI : XI G V) (hJ : VJ J) (hR : XR Rr) (x1 : Int) (bx1 : -2147483648 ≤ x1 ∧ x1 ≤ 2147483647) : xMi l D (xTY cy) yX8_number cX8_number 4 (some .int) 1 21 0 0 [.ref (ad 58), vI x1] (XW cy ad V J Rr) (fun _ : Unit => XW cy ad V J Rr) (fun a (u : Unit) => (f_s_number x1 V J Rr) a) := by
  refine xMi.mk (lv0 := [(0, .ref (ad 58)), (1, vI x1)]) (by decide) rfl (Nat.le_of_ble_eq_true rfl) (fun p e s m below meth c A C hr hnm hAe => ?_)
  have C : xC2 p s m _ meth c D A s.heap 4 cX8_number RX8 (xTY cy) := C
  have hF := Imp.of_eq (f_s_number.eq_def x1 V J Rr)
  refine x_iconst C.1 (n := 0) dX8_number_0 ?_
  refine x_istore_n C.1 (lv' := [(2, vI 0), (0, .ref (ad 58)), (1, vI x1)]) dX8_number_1 (by decide) rfl ?_
  refine x_iconst C.1 (n := 0) dX8_number_2 ?_
  refine x_istore_n C.1 (lv' := [(3, vI 0), (2, vI 0), (0, .ref (ad 58)), (1, vI x1)]) dX8_number_3 (by decide) rfl ?_
  obtain ⟨bd49, hbd49, hF⟩ := lop2_ex hF
  refine x_loop (I := fun x : Int × Int => match x with | (z47, z48) => (0 ≤ z47 ∧ z47 ≤ 4) ∧ (-2147483648 ≤ z48 ∧ z48 ≤ 2147483647) ∧ (∃ nf : Nat, (5 - z47).toNat < nf ∧ Imp (lop2 nf bd49 z47 z48) (f_s_number x1 V J Rr))) (μ := fun x : Int × Int => match x with | (z47, z48) => (5 - z47).toNat) (wsf := fun x : Int × Int => match x with | (z47, z48) => XW cy ad V J Rr) (lvf := fun x : Int × Int => match x with | (z47, z48) => [(3, vI z47), (2, vI z48), (0, .ref (ad 58)), (1, vI x1)]) (fun x hI49x ih49 => ?_) (0, 0) ⟨⟨by decide, by decide⟩, ⟨by decide, by decide⟩, ⟨_, (by omega), hF⟩⟩ rfl rfl
  obtain ⟨z47, z48⟩ := x
  obtain ⟨bz47, bz48, nf49, hn49, hF⟩ := hI49x
  try dsimp only
  obtain ⟨nf49, rfl⟩ : ∃ mm, nf49 = mm + 1 := ⟨nf49 - 1, (Nat.succ_pred_eq_of_pos (Nat.lt_of_le_of_lt (Nat.zero_le _) hn49)).symm⟩
  replace hF := hF.to (lop2_s hbd49)
  refine x_iload_n C.1 dX8_number_4 0 rfl ?_
  refine x_iconst C.1 (n := 4) dX8_number_5 ?_
  refine x_icmp_ge C.1 (tgt := 34) dX8_number_6 (by decide) (by omega) (by decide) (fun hc57 => ?_) (fun hc57 => ?_)
  · replace hF := hF.to (if_pos hc57)
    refine x_iload_n C.1 dX8_number_34 1 rfl ?_
    exact x_iret (S := Unit) (post := (fun a (u : Unit) => (f_s_number x1 V J Rr) a)) (w1 := (fun _ : Unit => XW cy ad V J Rr)) (a := z48) C hr rfl dX8_number_35 (by omega) () rfl (hF _ rfl)
  · replace hF := hF.to (if_neg hc57)
    refine x_iload_n C.1 dX8_number_9 1 rfl ?_
    refine x_bipush C.1 (n := 8) dX8_number_10 ?_
    obtain ⟨z58, hz58, bz58⟩ : ∃ z : Int, iShl z48 8 = z ∧ (-2147483648 ≤ z ∧ z ≤ 2147483647) := ⟨_, rfl, xi_r _⟩
    replace hF := hF.to (rdb_e (z := z58) hz58)
    refine x_ishl C.1 (v := z58) hz58 dX8_number_12 ?_
    refine x_aload_n C.1 dX8_number_13 2 rfl ?_
    refine x_iconst C.1 (n := 4) dX8_number_14 ?_
    refine x_iload_n C.1 dX8_number_15 3 rfl ?_
    refine x_imul C.1 (v := 4 * x1) (by omega) dX8_number_16 ?_
    refine x_wrapg ?_
    intro z59 bz59 ew59
    replace hF := hF.to (rdb_e (z := z59) ew59.symm)
    refine x_iload_n C.1 dX8_number_17 0 rfl ?_
    refine x_iadd C.1 (v := z59 + z47) (by omega) dX8_number_18 ?_
    refine x_wrapg ?_
    intro z60 bz60 ew60
    replace hF := hF.to (rdb_e (z := z60) ew60.symm)
    refine x_callVi C (As := [vI z60]) (rest := [vI z58]) 58 (xw_at (N := 129) (i := 58) (by decide) rfl) vc_X8 (s_at l D cy ad G V J Rr hI hJ hR z60 ⟨by omega, by omega⟩) (l1 := []) (l2 := []) (List.append_nil _).symm (w2 := fun _ => XW cy ad V J Rr) (fun _ => List.append_nil _) rfl wm_yX8_at wn_X8 wl_X8_19 wi_yX8_at we_yX8_at hd_yX8_at rfl ⟨Nat.le_of_ble_eq_true rfl, Nat.le_of_ble_eq_true rfl⟩ (Nat.le_of_ble_eq_true rfl) ⟨Nat.le_of_ble_eq_true rfl, Nat.le_of_ble_eq_true rfl⟩ dX8_number_19 (fun z61 u61 bz61 h61 => ?_)
    have hFc61 := h61
    replace hF := calR_i hF hFc61
    refine x_sipush C.1 (n := 255) dX8_number_22 ?_
    obtain ⟨z62, hz62, bz62⟩ : ∃ z : Int, iAnd z61 255 = z ∧ (0 ≤ z ∧ z ≤ 255) := ⟨_, rfl, iAnd_leB _ (by decide)⟩
    replace hF := hF.to (rdb_e (z := z62) hz62)
    replace hF := hF.fc bz62
    refine x_iand C.1 (v := z62) hz62 dX8_number_25 ?_
    obtain ⟨z63, hz63, bz63⟩ : ∃ z : Int, iOr z58 z62 = z ∧ (-2147483648 ≤ z ∧ z ≤ 2147483647) := ⟨_, rfl, xi_r _⟩
    replace hF := hF.to (rdb_e (z := z63) hz63)
    refine x_ior C.1 (v := z63) hz63 dX8_number_26 ?_
    refine x_istore_n C.1 (lv' := [(2, vI z63), (3, vI z47), (0, .ref (ad 58)), (1, vI x1)]) dX8_number_27 (by decide) rfl ?_
    refine x_iinc C.1 (v := z47 + 1) (lv' := [(3, vI (z47 + 1)), (2, vI z63), (0, .ref (ad 58)), (1, vI x1)]) (by omega) dX8_number_28 1 rfl (by decide) rfl ?_
    refine x_goto C.1 (tgt := 4) dX8_number_31 (by decide) ?_
    have hmu49 : (5 - (z47 + 1)).toNat < (5 - z47).toNat := (by omega)
    exact ih49 (z47 + 1, z63) ⟨⟨by omega, by omega⟩, ⟨by omega, by omega⟩, ⟨nf49, Nat.lt_of_lt_of_le hmu49 (Nat.le_of_lt_succ hn49), hF⟩⟩ hmu49
theorem dX0_put_0 : decode cX0_put 0 = .ok (.iload_n 1, 1) := by decide +kernel
theorem dX0_put_1 : decode cX0_put 1 = .ok (.bipush 97, 2) := by decide +kernel
theorem dX0_put_3 : decode cX0_put 3 = .ok (.isub, 1) := by decide +kernel
theorem dX0_put_4 : decode cX0_put 4 = .ok (.istore_n 3, 1) := by decide +kernel
theorem dX0_put_5 : decode cX0_put 5 = .ok (.iload_n 3, 1) := by decide +kernel
theorem dX0_put_6 : decode cX0_put 6 = .ok (.ifCond .lt 19, 3) := by decide +kernel
theorem dX0_put_9 : decode cX0_put 9 = .ok (.iload_n 3, 1) := by decide +kernel
theorem dX0_put_10 : decode cX0_put 10 = .ok (.aload_n 0, 1) := by decide +kernel
theorem dX0_put_11 : decode cX0_put 11 = .ok (.getfield 9, 3) := by decide +kernel
theorem dX0_put_14 : decode cX0_put 14 = .ok (.arraylength, 1) := by decide +kernel
theorem dX0_put_15 : decode cX0_put 15 = .ok (.if_icmp .ge 10, 3) := by decide +kernel
theorem dX0_put_18 : decode cX0_put 18 = .ok (.aload_n 0, 1) := by decide +kernel
theorem dX0_put_19 : decode cX0_put 19 = .ok (.getfield 9, 3) := by decide +kernel
theorem dX0_put_22 : decode cX0_put 22 = .ok (.iload_n 3, 1) := by decide +kernel
theorem dX0_put_23 : decode cX0_put 23 = .ok (.iload_n 2, 1) := by decide +kernel
theorem dX0_put_24 : decode cX0_put 24 = .ok (.iastore, 1) := by decide +kernel
theorem dX0_put_25 : decode cX0_put 25 = .ok (.return_, 1) := by decide +kernel
set_option maxRecDepth 100000 in
def f_s_putA (x1 : Int) (x2 : Int) (V : Nat → Nat → Int) (J : Nat → Nat → Int) (Rr : Nat → Nat → Nat) : (Nat → Nat → Int) → Prop :=
  (if x1 - 97 < 0 then rtn V else (if 26 ≤ x1 - 97 then rtn V else rdb (up2 V 70 ((x1 - 97).toNat) x2) fun V3 => rtn V3))
set_option maxHeartbeats 8000000 in
set_option maxRecDepth 100000 in
theorem s_putA (l : Launch) (D : va_G) (cy : Nat → ClassId) (ad : Nat → Nat) (G : Nat → Nat → Int) (V J : Nat → Nat → Int) (Rr : Nat → Nat → Nat) (hI : XI G V) (hJ : VJ J) (hR : XR Rr) (x1 : Int) (bx1 : 0 ≤ x1 ∧ x1 ≤ 65535) (x2 : Int) (bx2 : -2147483648 ≤ x2 ∧ x2 ≤ 2147483647) : xMv l D (xTY cy) yX0_put cX0_put 4 none 0 0 0 0 [.ref (ad 69), vI x1, vI x2] (XW cy ad V J Rr) (fun u : Nat → Nat → Int => XW cy ad u J Rr) (fun u : Nat → Nat → Int => XI G u ∧ FB (fun i k : Nat => (69 ≤ i ∧ i ≤ 71)) V u ∧ (f_s_putA x1 x2 V J Rr) u) := by
  refine xMv.mk (lv0 := [(0, .ref (ad 69)), (1, vI x1), (2, vI x2)]) (by decide) rfl (Nat.le_of_ble_eq_true rfl) (fun p e s m below meth c A C hr hnm hAe => ?_)
  have C : xC2 p s m _ meth c D A s.heap 4 cX0_put RX0 (xTY cy) := C
  have hB : FB (fun i k : Nat => (69 ≤ i ∧ i ≤ 71)) V V := FB.rf _ _
  have hF := Imp.of_eq (f_s_putA.eq_def x1 x2 V J Rr)
  refine x_iload_n C.1 dX0_put_0 1 rfl ?_
  refine x_bipush C.1 (n := 97) dX0_put_1 ?_
  refine x_isub C.1 (v := x1 - 97) (by omega) dX0_put_3 ?_
  refine x_istore_n C.1 (lv' := [(3, vI (x1 - 97)), (0, .ref (ad 69)), (1, vI x1), (2, vI x2)]) dX0_put_4 (by decide) rfl ?_
  refine x_iload_n C.1 dX0_put_5 0 rfl ?_
  refine x_if_lt C.1 (tgt := 25) dX0_put_6 (by decide) (by omega) (fun hc1 => ?_) (fun hc1 => ?_)
  · replace hF := hF.to (if_pos hc1)
    exact x_vret (S := (Nat → Nat → Int)) (post := (fun u : Nat → Nat → Int => XI G u ∧ FB (fun i k : Nat => (69 ≤ i ∧ i ≤ 71)) V u ∧ (f_s_putA x1 x2 V J Rr) u)) (w1 := (fun u : Nat → Nat → Int => XW cy ad u J Rr)) C hr rfl dX0_put_25 V rfl ⟨hI, hB, hF _ rfl⟩
  · replace hF := hF.to (if_neg hc1)
    refine x_iload_n C.1 dX0_put_9 0 rfl ?_
    refine x_aload_n C.1 dX0_put_10 1 rfl ?_
    refine x_getA C (N := 129) (i := 69) (by decide) rfl vc_X0 wx_X0 0 (by decide) wf_X0_9 (a := 70) rfl dX0_put_11 ?_
    refine x_alenI C (N := 129) (i := 70) (t := 0) rfl (by decide) rfl dX0_put_14 ?_
    refine x_icmp_ge C.1 (tgt := 25) dX0_put_15 (by decide) (by omega) (by decide) (fun hc2 => ?_) (fun hc2 => ?_)
    · replace hF := hF.to (if_pos hc2)
      exact x_vret (S := (Nat → Nat → Int)) (post := (fun u : Nat → Nat → Int => XI G u ∧ FB (fun i k : Nat => (69 ≤ i ∧ i ≤ 71)) V u ∧ (f_s_putA x1 x2 V J Rr) u)) (w1 := (fun u : Nat → Nat → Int => XW cy ad u J Rr)) C hr rfl dX0_put_25 V rfl ⟨hI, hB, hF _ rfl⟩
    · replace hF := hF.to (if_neg hc2)
      refine x_aload_n C.1 dX0_put_18 1 rfl ?_
      refine x_getA C (N := 129) (i := 69) (by decide) rfl vc_X0 wx_X0 0 (by decide) wf_X0_9 (a := 70) rfl dX0_put_19 ?_
      refine x_iload_n C.1 dX0_put_22 0 rfl ?_
      refine x_iload_n C.1 dX0_put_23 3 rfl ?_
      refine x_iast C (N := 129) (i := 70) (q := x1 - 97) (a := x2) (by decide) rfl (by omega) (by decide) dX0_put_24 ?_
      refine x_gV ?_
      intro V3 hV3
      have hI3 : XI G V3 := hI.up hV3 rfl (by omega) rfl
      have hB3 := hB.up hV3 (⟨by decide, by decide⟩)
      replace hF := hF.to (rdb_e (z := V3) hV3.symm)
      exact x_vret (S := (Nat → Nat → Int)) (post := (fun u : Nat → Nat → Int => XI G u ∧ FB (fun i k : Nat => (69 ≤ i ∧ i ≤ 71)) V u ∧ (f_s_putA x1 x2 V J Rr) u)) (w1 := (fun u : Nat → Nat → Int => XW cy ad u J Rr)) C hr rfl dX0_put_25 V3 rfl ⟨hI3, hB3, hF _ rfl⟩
theorem hd_yX0_put : yX0_put.cls ≠ "java/lang/invoke/MethodHandle" ∧ yX0_put.cls ≠ "java/lang/invoke/VarHandle" ∧ (parseMethodDescriptor yX0_put.desc).map (fun d => d.parameters.length) = some 2 := by decide +kernel
theorem dX0_onDay_0 : decode cX0_onDay 0 = .ok (.aload_n 0, 1) := by decide +kernel
theorem dX0_onDay_1 : decode cX0_onDay 1 = .ok (.bipush 100, 2) := by decide +kernel
theorem dX0_onDay_3 : decode cX0_onDay 3 = .ok (.iload_n 1, 1) := by decide +kernel
theorem dX0_onDay_4 : decode cX0_onDay 4 = .ok (.invokevirtual 18, 3) := by decide +kernel
theorem dX0_onDay_7 : decode cX0_onDay 7 = .ok (.aload_n 0, 1) := by decide +kernel
theorem dX0_onDay_8 : decode cX0_onDay 8 = .ok (.bipush 119, 2) := by decide +kernel
theorem dX0_onDay_10 : decode cX0_onDay 10 = .ok (.iload_n 1, 1) := by decide +kernel
theorem dX0_onDay_11 : decode cX0_onDay 11 = .ok (.bipush 7, 2) := by decide +kernel
theorem dX0_onDay_13 : decode cX0_onDay 13 = .ok (.irem, 1) := by decide +kernel
theorem dX0_onDay_14 : decode cX0_onDay 14 = .ok (.invokevirtual 18, 3) := by decide +kernel
theorem dX0_onDay_17 : decode cX0_onDay 17 = .ok (.aload_n 0, 1) := by decide +kernel
theorem dX0_onDay_18 : decode cX0_onDay 18 = .ok (.bipush 110, 2) := by decide +kernel
theorem dX0_onDay_20 : decode cX0_onDay 20 = .ok (.iload_n 2, 1) := by decide +kernel
theorem dX0_onDay_21 : decode cX0_onDay 21 = .ok (.invokevirtual 18, 3) := by decide +kernel
theorem dX0_onDay_24 : decode cX0_onDay 24 = .ok (.return_, 1) := by decide +kernel
set_option maxRecDepth 100000 in
def f_s_onDay (x1 : Int) (x2 : Int) (V : Nat → Nat → Int) (J : Nat → Nat → Int) (Rr : Nat → Nat → Nat) : (Nat → Nat → Int) → Prop :=
  calUX (fun i k : Nat => (69 ≤ i ∧ i ≤ 71)) V (f_s_putA 100 x1 V J Rr) fun V1 => rdb (iRem x1 7) fun z2 => fct (-6 ≤ z2 ∧ z2 ≤ 6) <| calUX (fun i k : Nat => (69 ≤ i ∧ i ≤ 71)) V1 (f_s_putA 119 z2 V1 J Rr) fun V3 => calUX (fun i k : Nat => (69 ≤ i ∧ i ≤ 71)) V3 (f_s_putA 110 x2 V3 J Rr) fun V4 => rtn V4
set_option maxHeartbeats 8000000 in
set_option maxRecDepth 100000 in
theorem s_onDay (l : Launch) (D : va_G) (cy : Nat → ClassId) (ad : Nat → Nat) (G : Nat → Nat → Int) (V J : Nat → Nat → Int) (Rr : Nat → Nat → Nat) (hI : XI G V) (hJ : VJ J) (hR : XR Rr) (x1 : Int) (bx1 : -2147483648 ≤ x1 ∧ x1 ≤ 2147483647) (x2 : Int) (bx2 : -2147483648 ≤ x2 ∧ x2 ≤ 2147483647) : xMv l D (xTY cy) yX0_onDay cX0_onDay 3 none 1 23 0 0 [.ref (ad 69), vI x1, vI x2] (XW cy ad V J Rr) (fun u : Nat → Nat → Int => XW cy ad u J Rr) (fun u : Nat → Nat → Int => XI G u ∧ FB (fun i k : Nat => (69 ≤ i ∧ i ≤ 71)) V u ∧ (f_s_onDay x1 x2 V J Rr) u) := by
  refine xMv.mk (lv0 := [(0, .ref (ad 69)), (1, vI x1), (2, vI x2)]) (by decide) rfl (Nat.le_of_ble_eq_true rfl) (fun p e s m below meth c A C hr hnm hAe => ?_)
  have C : xC2 p s m _ meth c D A s.heap 3 cX0_onDay RX0 (xTY cy) := C
  have hB : FB (fun i k : Nat => (69 ≤ i ∧ i ≤ 71)) V V := FB.rf _ _
  have hF := Imp.of_eq (f_s_onDay.eq_def x1 x2 V J Rr)
  refine x_aload_n C.1 dX0_onDay_0 0 rfl ?_
  refine x_bipush C.1 (n := 100) dX0_onDay_1 ?_
  refine x_iload_n C.1 dX0_onDay_3 1 rfl ?_
  refine x_callVv C (As := [vI 100, vI x1]) (rest := []) 69 (xw_at (N := 129) (i := 69) (by decide) rfl) vc_X0 (s_putA l D cy ad G V J Rr hI hJ hR 100 ⟨by decide, by decide⟩ x1 ⟨by omega, by omega⟩) (l1 := []) (l2 := []) (List.append_nil _).symm (w2 := fun u : Nat → Nat → Int => XW cy ad u J Rr) (fun _ => List.append_nil _) rfl wm_yX0_put wn_X0 wl_X0_18 wi_yX0_put we_yX0_put hd_yX0_put rfl ⟨Nat.le_of_ble_eq_true rfl, Nat.le_of_ble_eq_true rfl⟩ (Nat.le_of_ble_eq_true rfl) ⟨Nat.le_of_ble_eq_true rfl, Nat.le_of_ble_eq_true rfl⟩ dX0_onDay_4 (fun V1 h1 => ?_)
  obtain ⟨hI1, hBc1, hFc1⟩ := h1
  replace hF := calUX_i hF hFc1 hBc1
  have hB1 := hB.tr hBc1 (fun i k h => (h))
  refine x_aload_n C.1 dX0_onDay_7 0 rfl ?_
  refine x_bipush C.1 (n := 119) dX0_onDay_8 ?_
  refine x_iload_n C.1 dX0_onDay_10 1 rfl ?_
  refine x_bipush C.1 (n := 7) dX0_onDay_11 ?_
  obtain ⟨z2, hz2, bz2⟩ : ∃ z : Int, iRem x1 7 = z ∧ (-6 ≤ z ∧ z ≤ 6) := ⟨_, rfl, iRem_m (by omega) (by omega)⟩
  replace hF := hF.to (rdb_e (z := z2) hz2)
  replace hF := hF.fc bz2
  refine x_irem C.1 (v := z2) hz2 dX0_onDay_13 (by decide) (by decide) ?_
  refine x_callVv C (As := [vI 119, vI z2]) (rest := []) 69 (xw_at (N := 129) (i := 69) (by decide) rfl) vc_X0 (s_putA l D cy ad G V1 J Rr hI1 hJ hR 119 ⟨by decide, by decide⟩ z2 ⟨by omega, by omega⟩) (l1 := []) (l2 := []) (List.append_nil _).symm (w2 := fun u : Nat → Nat → Int => XW cy ad u J Rr) (fun _ => List.append_nil _) rfl wm_yX0_put wn_X0 wl_X0_18 wi_yX0_put we_yX0_put hd_yX0_put rfl ⟨Nat.le_of_ble_eq_true rfl, Nat.le_of_ble_eq_true rfl⟩ (Nat.le_of_ble_eq_true rfl) ⟨Nat.le_of_ble_eq_true rfl, Nat.le_of_ble_eq_true rfl⟩ dX0_onDay_14 (fun V3 h3 => ?_)
  obtain ⟨hI3, hBc3, hFc3⟩ := h3
  replace hF := calUX_i hF hFc3 hBc3
  have hB3 := hB1.tr hBc3 (fun i k h => (h))
  refine x_aload_n C.1 dX0_onDay_17 0 rfl ?_
  refine x_bipush C.1 (n := 110) dX0_onDay_18 ?_
  refine x_iload_n C.1 dX0_onDay_20 2 rfl ?_
  refine x_callVv C (As := [vI 110, vI x2]) (rest := []) 69 (xw_at (N := 129) (i := 69) (by decide) rfl) vc_X0 (s_putA l D cy ad G V3 J Rr hI3 hJ hR 110 ⟨by decide, by decide⟩ x2 ⟨by omega, by omega⟩) (l1 := []) (l2 := []) (List.append_nil _).symm (w2 := fun u : Nat → Nat → Int => XW cy ad u J Rr) (fun _ => List.append_nil _) rfl wm_yX0_put wn_X0 wl_X0_18 wi_yX0_put we_yX0_put hd_yX0_put rfl ⟨Nat.le_of_ble_eq_true rfl, Nat.le_of_ble_eq_true rfl⟩ (Nat.le_of_ble_eq_true rfl) ⟨Nat.le_of_ble_eq_true rfl, Nat.le_of_ble_eq_true rfl⟩ dX0_onDay_21 (fun V4 h4 => ?_)
  obtain ⟨hI4, hBc4, hFc4⟩ := h4
  replace hF := calUX_i hF hFc4 hBc4
  have hB4 := hB3.tr hBc4 (fun i k h => (h))
  exact x_vret (S := (Nat → Nat → Int)) (post := (fun u : Nat → Nat → Int => XI G u ∧ FB (fun i k : Nat => (69 ≤ i ∧ i ≤ 71)) V u ∧ (f_s_onDay x1 x2 V J Rr) u)) (w1 := (fun u : Nat → Nat → Int => XW cy ad u J Rr)) C hr rfl dX0_onDay_24 V4 rfl ⟨hI4, hB4, hF _ rfl⟩
end
section
theorem dJ7_fill_53178_0 : decode cJ7_fill_53178 0 = .ok (.iconst 0, 1) := by decide +kernel
theorem dJ7_fill_53178_1 : decode cJ7_fill_53178 1 = .ok (.istore_n 2, 1) := by decide +kernel
theorem dJ7_fill_53178_2 : decode cJ7_fill_53178 2 = .ok (.aload_n 0, 1) := by decide +kernel
theorem dJ7_fill_53178_3 : decode cJ7_fill_53178 3 = .ok (.arraylength, 1) := by decide +kernel
theorem dJ7_fill_53178_4 : decode cJ7_fill_53178 4 = .ok (.istore_n 3, 1) := by decide +kernel
theorem dJ7_fill_53178_5 : decode cJ7_fill_53178 5 = .ok (.iload_n 2, 1) := by decide +kernel
theorem dJ7_fill_53178_6 : decode cJ7_fill_53178 6 = .ok (.iload_n 3, 1) := by decide +kernel
theorem dJ7_fill_53178_7 : decode cJ7_fill_53178 7 = .ok (.if_icmp .ge 13, 3) := by decide +kernel
theorem dJ7_fill_53178_10 : decode cJ7_fill_53178 10 = .ok (.aload_n 0, 1) := by decide +kernel
theorem dJ7_fill_53178_11 : decode cJ7_fill_53178 11 = .ok (.iload_n 2, 1) := by decide +kernel
theorem dJ7_fill_53178_12 : decode cJ7_fill_53178 12 = .ok (.iload_n 1, 1) := by decide +kernel
theorem dJ7_fill_53178_13 : decode cJ7_fill_53178 13 = .ok (.iastore, 1) := by decide +kernel
theorem dJ7_fill_53178_14 : decode cJ7_fill_53178 14 = .ok (.iinc 2 1, 3) := by decide +kernel
theorem dJ7_fill_53178_17 : decode cJ7_fill_53178 17 = .ok (.goto (-12), 3) := by decide +kernel
theorem dJ7_fill_53178_20 : decode cJ7_fill_53178 20 = .ok (.return_, 1) := by decide +kernel
set_option maxRecDepth 100000 in
def f_s_fillA (x1 : Int) (V : Nat → Nat → Int) (J : Nat → Nat → Int) (Rr : Nat → Nat → Nat) : (Nat → Nat → Int) → Prop :=
  lop2 (28) (fun rc15 (z14 : Int) (V15 : Nat → Nat → Int) => (if 26 ≤ z14 then rtn V15 else rdb (up2 V15 70 z14.toNat x1) fun V19 => rc15 (z14 + 1) V19)) 0 V
set_option maxHeartbeats 8000000 in
set_option maxRecDepth 100000 in
theorem s_fillA (l : Launch) (D : va_G) (cy : Nat → ClassId) (ad : Nat → Nat) (G : Nat → Nat → Int) (V J : Nat → Nat → Int) (Rr : Nat → Nat → Nat) (hI : XI G V) (hJ : VJ J) (hR : XR Rr) (x1 : Int) (bx1 : -2147483648 ≤ x1 ∧ x1 ≤ 2147483647) : xMv l D (xTY cy) yJ7_fill_53178 cJ7_fill_53178 4 none 0 0 0 0 [.ref (ad 70), vI x1] (XW cy ad V J Rr) (fun u : Nat → Nat → Int => XW cy ad u J Rr) (fun u : Nat → Nat → Int => XI G u ∧ FB (fun i k : Nat => (70 ≤ i ∧ i ≤ 70)) V u ∧ (f_s_fillA x1 V J Rr) u) := by
  refine xMv.mk (lv0 := [(0, .ref (ad 70)), (1, vI x1)]) (by decide) rfl (Nat.le_of_ble_eq_true rfl) (fun p e s m below meth c A C hr hnm hAe => ?_)
  have C : xC2 p s m _ meth c D A s.heap 4 cJ7_fill_53178 RJ7 (xTY cy) := C
  have hB : FB (fun i k : Nat => (70 ≤ i ∧ i ≤ 70)) V V := FB.rf _ _
  have hF := Imp.of_eq (f_s_fillA.eq_def x1 V J Rr)
  refine x_iconst C.1 (n := 0) dJ7_fill_53178_0 ?_
  refine x_istore_n C.1 (lv' := [(2, vI 0), (0, .ref (ad 70)), (1, vI x1)]) dJ7_fill_53178_1 (by decide) rfl ?_
  refine x_aload_n C.1 dJ7_fill_53178_2 1 rfl ?_
  refine x_alenI C (N := 129) (i := 70) (t := 0) rfl (by decide) rfl dJ7_fill_53178_3 ?_
  refine x_istore_n C.1 (lv' := [(3, vI 26), (2, vI 0), (0, .ref (ad 70)), (1, vI x1)]) dJ7_fill_53178_4 (by decide) rfl ?_
  obtain ⟨bd15, hbd15, hF⟩ := lop2_ex hF
  refine x_loop (I := fun x : Int × (Nat → Nat → Int) => match x with | (z14, V15) => (0 ≤ z14 ∧ z14 ≤ 26) ∧ XI G V15 ∧ FB (fun i k : Nat => (70 ≤ i ∧ i ≤ 70)) V V15 ∧ (∃ nf : Nat, (27 - z14).toNat < nf ∧ Imp (lop2 nf bd15 z14 V15) (f_s_fillA x1 V J Rr))) (μ := fun x : Int × (Nat → Nat → Int) => match x with | (z14, V15) => (27 - z14).toNat) (wsf := fun x : Int × (Nat → Nat → Int) => match x with | (z14, V15) => XW cy ad V15 J Rr) (lvf := fun x : Int × (Nat → Nat → Int) => match x with | (z14, V15) => [(3, vI 26), (2, vI z14), (0, .ref (ad 70)), (1, vI x1)]) (fun x hI15x ih15 => ?_) (0, V) ⟨⟨by decide, by decide⟩, hI, hB, ⟨_, (by omega), hF⟩⟩ rfl rfl
  obtain ⟨z14, V15⟩ := x
  obtain ⟨bz14, hI15, hB15, nf15, hn15, hF⟩ := hI15x
  try dsimp only
  obtain ⟨nf15, rfl⟩ : ∃ mm, nf15 = mm + 1 := ⟨nf15 - 1, (Nat.succ_pred_eq_of_pos (Nat.lt_of_le_of_lt (Nat.zero_le _) hn15)).symm⟩
  replace hF := hF.to (lop2_s hbd15)
  refine x_iload_n C.1 dJ7_fill_53178_5 1 rfl ?_
  refine x_iload_n C.1 dJ7_fill_53178_6 0 rfl ?_
  refine x_icmp_ge C.1 (tgt := 20) dJ7_fill_53178_7 (by decide) (by omega) (by decide) (fun hc18 => ?_) (fun hc18 => ?_)
  · replace hF := hF.to (if_pos hc18)
    exact x_vret (S := (Nat → Nat → Int)) (post := (fun u : Nat → Nat → Int => XI G u ∧ FB (fun i k : Nat => (70 ≤ i ∧ i ≤ 70)) V u ∧ (f_s_fillA x1 V J Rr) u)) (w1 := (fun u : Nat → Nat → Int => XW cy ad u J Rr)) C hr rfl dJ7_fill_53178_20 V15 rfl ⟨hI15, hB15, hF _ rfl⟩
  · replace hF := hF.to (if_neg hc18)
    refine x_aload_n C.1 dJ7_fill_53178_10 2 rfl ?_
    refine x_iload_n C.1 dJ7_fill_53178_11 1 rfl ?_
    refine x_iload_n C.1 dJ7_fill_53178_12 3 rfl ?_
    refine x_iast C (N := 129) (i := 70) (q := z14) (a := x1) (by decide) rfl (by omega) (by decide) dJ7_fill_53178_13 ?_
    refine x_gV ?_
    intro V19 hV19
    have hI19 : XI G V19 := hI15.up hV19 rfl (by omega) rfl
    have hB19 := hB15.up hV19 (⟨by decide, by decide⟩)
    replace hF := hF.to (rdb_e (z := V19) hV19.symm)
    refine x_iinc C.1 (v := z14 + 1) (lv' := [(2, vI (z14 + 1)), (3, vI 26), (0, .ref (ad 70)), (1, vI x1)]) (by omega) dJ7_fill_53178_14 1 rfl (by decide) rfl ?_
    refine x_goto C.1 (tgt := 5) dJ7_fill_53178_17 (by decide) ?_
    refine x_lv [(3, vI 26), (2, vI (z14 + 1)), (0, .ref (ad 70)), (1, vI x1)] [1, 0, 2, 3] rfl ?_
    have hmu15 : (27 - (z14 + 1)).toNat < (27 - z14).toNat := (by omega)
    exact ih15 (z14 + 1, V19) ⟨⟨by omega, by omega⟩, hI19, hB19, ⟨nf15, Nat.lt_of_lt_of_le hmu15 (Nat.le_of_lt_succ hn15), hF⟩⟩ hmu15
set_option maxRecDepth 100000 in
def f_s_fillT (x1 : Int) (V : Nat → Nat → Int) (J : Nat → Nat → Int) (Rr : Nat → Nat → Nat) : (Nat → Nat → Int) → Prop :=
  lop2 (5) (fun rc10 (z9 : Int) (V10 : Nat → Nat → Int) => (if 3 ≤ z9 then rtn V10 else rdb (up2 V10 104 z9.toNat x1) fun V14 => rc10 (z9 + 1) V14)) 0 V
set_option maxHeartbeats 8000000 in
set_option maxRecDepth 100000 in
theorem s_fillT (l : Launch) (D : va_G) (cy : Nat → ClassId) (ad : Nat → Nat) (G : Nat → Nat → Int) (V J : Nat → Nat → Int) (Rr : Nat → Nat → Nat) (hI : XI G V) (hJ : VJ J) (hR : XR Rr) (x1 : Int) (bx1 : -2147483648 ≤ x1 ∧ x1 ≤ 2147483647) : xMv l D (xTY cy) yJ7_fill_53178 cJ7_fill_53178 4 none 0 0 0 0 [.ref (ad 104), vI x1] (XW cy ad V J Rr) (fun u : Nat → Nat → Int => XW cy ad u J Rr) (fun u : Nat → Nat → Int => XI G u ∧ FB (fun i k : Nat => (104 ≤ i ∧ i ≤ 104)) V u ∧ (f_s_fillT x1 V J Rr) u) := by
  refine xMv.mk (lv0 := [(0, .ref (ad 104)), (1, vI x1)]) (by decide) rfl (Nat.le_of_ble_eq_true rfl) (fun p e s m below meth c A C hr hnm hAe => ?_)
  have C : xC2 p s m _ meth c D A s.heap 4 cJ7_fill_53178 RJ7 (xTY cy) := C
  have hB : FB (fun i k : Nat => (104 ≤ i ∧ i ≤ 104)) V V := FB.rf _ _
  have hF := Imp.of_eq (f_s_fillT.eq_def x1 V J Rr)
  refine x_iconst C.1 (n := 0) dJ7_fill_53178_0 ?_
  refine x_istore_n C.1 (lv' := [(2, vI 0), (0, .ref (ad 104)), (1, vI x1)]) dJ7_fill_53178_1 (by decide) rfl ?_
  refine x_aload_n C.1 dJ7_fill_53178_2 1 rfl ?_
  refine x_alenI C (N := 129) (i := 104) (t := 0) rfl (by decide) rfl dJ7_fill_53178_3 ?_
  refine x_istore_n C.1 (lv' := [(3, vI 3), (2, vI 0), (0, .ref (ad 104)), (1, vI x1)]) dJ7_fill_53178_4 (by decide) rfl ?_
  obtain ⟨bd10, hbd10, hF⟩ := lop2_ex hF
  refine x_loop (I := fun x : Int × (Nat → Nat → Int) => match x with | (z9, V10) => (0 ≤ z9 ∧ z9 ≤ 3) ∧ XI G V10 ∧ FB (fun i k : Nat => (104 ≤ i ∧ i ≤ 104)) V V10 ∧ (∃ nf : Nat, (4 - z9).toNat < nf ∧ Imp (lop2 nf bd10 z9 V10) (f_s_fillT x1 V J Rr))) (μ := fun x : Int × (Nat → Nat → Int) => match x with | (z9, V10) => (4 - z9).toNat) (wsf := fun x : Int × (Nat → Nat → Int) => match x with | (z9, V10) => XW cy ad V10 J Rr) (lvf := fun x : Int × (Nat → Nat → Int) => match x with | (z9, V10) => [(3, vI 3), (2, vI z9), (0, .ref (ad 104)), (1, vI x1)]) (fun x hI10x ih10 => ?_) (0, V) ⟨⟨by decide, by decide⟩, hI, hB, ⟨_, (by omega), hF⟩⟩ rfl rfl
  obtain ⟨z9, V10⟩ := x
  obtain ⟨bz9, hI10, hB10, nf10, hn10, hF⟩ := hI10x
  try dsimp only
  obtain ⟨nf10, rfl⟩ : ∃ mm, nf10 = mm + 1 := ⟨nf10 - 1, (Nat.succ_pred_eq_of_pos (Nat.lt_of_le_of_lt (Nat.zero_le _) hn10)).symm⟩
  replace hF := hF.to (lop2_s hbd10)
  refine x_iload_n C.1 dJ7_fill_53178_5 1 rfl ?_
  refine x_iload_n C.1 dJ7_fill_53178_6 0 rfl ?_
  refine x_icmp_ge C.1 (tgt := 20) dJ7_fill_53178_7 (by decide) (by omega) (by decide) (fun hc13 => ?_) (fun hc13 => ?_)
  · replace hF := hF.to (if_pos hc13)
    exact x_vret (S := (Nat → Nat → Int)) (post := (fun u : Nat → Nat → Int => XI G u ∧ FB (fun i k : Nat => (104 ≤ i ∧ i ≤ 104)) V u ∧ (f_s_fillT x1 V J Rr) u)) (w1 := (fun u : Nat → Nat → Int => XW cy ad u J Rr)) C hr rfl dJ7_fill_53178_20 V10 rfl ⟨hI10, hB10, hF _ rfl⟩
  · replace hF := hF.to (if_neg hc13)
    refine x_aload_n C.1 dJ7_fill_53178_10 2 rfl ?_
    refine x_iload_n C.1 dJ7_fill_53178_11 1 rfl ?_
    refine x_iload_n C.1 dJ7_fill_53178_12 3 rfl ?_
    refine x_iast C (N := 129) (i := 104) (q := z9) (a := x1) (by decide) rfl (by omega) (by decide) dJ7_fill_53178_13 ?_
    refine x_gV ?_
    intro V14 hV14
    have hI14 : XI G V14 := hI10.up hV14 rfl (by omega) rfl
    have hB14 := hB10.up hV14 (⟨by decide, by decide⟩)
    replace hF := hF.to (rdb_e (z := V14) hV14.symm)
    refine x_iinc C.1 (v := z9 + 1) (lv' := [(2, vI (z9 + 1)), (3, vI 3), (0, .ref (ad 104)), (1, vI x1)]) (by omega) dJ7_fill_53178_14 1 rfl (by decide) rfl ?_
    refine x_goto C.1 (tgt := 5) dJ7_fill_53178_17 (by decide) ?_
    refine x_lv [(3, vI 3), (2, vI (z9 + 1)), (0, .ref (ad 104)), (1, vI x1)] [1, 0, 2, 3] rfl ?_
    have hmu10 : (4 - (z9 + 1)).toNat < (4 - z9).toNat := (by omega)
    exact ih10 (z9 + 1, V14) ⟨⟨by omega, by omega⟩, hI14, hB14, ⟨nf10, Nat.lt_of_lt_of_le hmu10 (Nat.le_of_lt_succ hn10), hF⟩⟩ hmu10
theorem dJ7_fill_d0a16_0 : decode cJ7_fill_d0a16 0 = .ok (.iconst 0, 1) := by decide +kernel
theorem dJ7_fill_d0a16_1 : decode cJ7_fill_d0a16 1 = .ok (.istore_n 3, 1) := by decide +kernel
theorem dJ7_fill_d0a16_2 : decode cJ7_fill_d0a16 2 = .ok (.aload_n 0, 1) := by decide +kernel
theorem dJ7_fill_d0a16_3 : decode cJ7_fill_d0a16 3 = .ok (.arraylength, 1) := by decide +kernel
theorem dJ7_fill_d0a16_4 : decode cJ7_fill_d0a16 4 = .ok (.istore 4, 2) := by decide +kernel
theorem dJ7_fill_d0a16_6 : decode cJ7_fill_d0a16 6 = .ok (.iload_n 3, 1) := by decide +kernel
theorem dJ7_fill_d0a16_7 : decode cJ7_fill_d0a16 7 = .ok (.iload 4, 2) := by decide +kernel
theorem dJ7_fill_d0a16_9 : decode cJ7_fill_d0a16 9 = .ok (.if_icmp .ge 13, 3) := by decide +kernel
theorem dJ7_fill_d0a16_12 : decode cJ7_fill_d0a16 12 = .ok (.aload_n 0, 1) := by decide +kernel
theorem dJ7_fill_d0a16_13 : decode cJ7_fill_d0a16 13 = .ok (.iload_n 3, 1) := by decide +kernel
theorem dJ7_fill_d0a16_14 : decode cJ7_fill_d0a16 14 = .ok (.lload_n 1, 1) := by decide +kernel
theorem dJ7_fill_d0a16_15 : decode cJ7_fill_d0a16 15 = .ok (.lastore, 1) := by decide +kernel
theorem dJ7_fill_d0a16_16 : decode cJ7_fill_d0a16 16 = .ok (.iinc 3 1, 3) := by decide +kernel
theorem dJ7_fill_d0a16_19 : decode cJ7_fill_d0a16 19 = .ok (.goto (-13), 3) := by decide +kernel
theorem dJ7_fill_d0a16_22 : decode cJ7_fill_d0a16 22 = .ok (.return_, 1) := by decide +kernel
set_option maxRecDepth 100000 in
def f_s_fillO (x1 : Int) (V : Nat → Nat → Int) (J : Nat → Nat → Int) (Rr : Nat → Nat → Nat) : (xS) → Prop :=
  lop2 (15) (fun rc15 (z14 : Int) (J15 : Nat → Nat → Int) => (if 13 ≤ z14 then rtn (V, J15, Rr) else rdb (up2 J15 128 z14.toNat x1) fun J19 => rc15 (z14 + 1) J19)) 0 J
set_option maxHeartbeats 8000000 in
set_option maxRecDepth 100000 in
theorem s_fillO (l : Launch) (D : va_G) (cy : Nat → ClassId) (ad : Nat → Nat) (G : Nat → Nat → Int) (V J : Nat → Nat → Int) (Rr : Nat → Nat → Nat) (hI : XI G V) (hJ : VJ J) (hR : XR Rr) (x1 : Int) (bx1 : -9223372036854775808 ≤ x1 ∧ x1 ≤ 9223372036854775807) : xMv l D (xTY cy) yJ7_fill_d0a16 cJ7_fill_d0a16 5 none 0 0 0 0 [.ref (ad 128), vJ x1] (XW cy ad V J Rr) (fun u : xS => XW cy ad u.1 u.2.1 u.2.2) (fun u : xS => XS G u ∧ FB (fun _ _ => False) V u.1 ∧ RK u.2.2 Rr ∧ (f_s_fillO x1 V J Rr) u) := by
  refine xMv.mk (lv0 := [(0, .ref (ad 128)), (1, vJ x1)]) (by decide) rfl (Nat.le_of_ble_eq_true rfl) (fun p e s m below meth c A C hr hnm hAe => ?_)
  have C : xC2 p s m _ meth c D A s.heap 5 cJ7_fill_d0a16 RJ7 (xTY cy) := C
  have hB : FB (fun _ _ => False) V V := FB.rf _ _
  have hF := Imp.of_eq (f_s_fillO.eq_def x1 V J Rr)
  refine x_iconst C.1 (n := 0) dJ7_fill_d0a16_0 ?_
  refine x_istore_n C.1 (lv' := [(3, vI 0), (0, .ref (ad 128)), (1, vJ x1)]) dJ7_fill_d0a16_1 (by decide) rfl ?_
  refine x_aload_n C.1 dJ7_fill_d0a16_2 1 rfl ?_
  refine x_alenJ C (N := 129) (i := 128) (t := 1) rfl (by decide) rfl dJ7_fill_d0a16_3 ?_
  refine x_istore C.1 (lv' := [(4, vI 13), (3, vI 0), (0, .ref (ad 128)), (1, vJ x1)]) dJ7_fill_d0a16_4 (by decide) rfl ?_
  obtain ⟨bd15, hbd15, hF⟩ := lop2_ex hF
  refine x_loop (I := fun x : Int × (Nat → Nat → Int) => match x with | (z14, J15) => (0 ≤ z14 ∧ z14 ≤ 13) ∧ VJ J15 ∧ (∃ nf : Nat, (14 - z14).toNat < nf ∧ Imp (lop2 nf bd15 z14 J15) (f_s_fillO x1 V J Rr))) (μ := fun x : Int × (Nat → Nat → Int) => match x with | (z14, J15) => (14 - z14).toNat) (wsf := fun x : Int × (Nat → Nat → Int) => match x with | (z14, J15) => XW cy ad V J15 Rr) (lvf := fun x : Int × (Nat → Nat → Int) => match x with | (z14, J15) => [(4, vI 13), (3, vI z14), (0, .ref (ad 128)), (1, vJ x1)]) (fun x hI15x ih15 => ?_) (0, J) ⟨⟨by decide, by decide⟩, hJ, ⟨_, (by omega), hF⟩⟩ rfl rfl
  obtain ⟨z14, J15⟩ := x
  obtain ⟨bz14, hJ15, nf15, hn15, hF⟩ := hI15x
  try dsimp only
  obtain ⟨nf15, rfl⟩ : ∃ mm, nf15 = mm + 1 := ⟨nf15 - 1, (Nat.succ_pred_eq_of_pos (Nat.lt_of_le_of_lt (Nat.zero_le _) hn15)).symm⟩
  replace hF := hF.to (lop2_s hbd15)
  refine x_iload_n C.1 dJ7_fill_d0a16_6 1 rfl ?_
  refine x_iload C.1 dJ7_fill_d0a16_7 0 rfl ?_
  refine x_icmp_ge C.1 (tgt := 22) dJ7_fill_d0a16_9 (by decide) (by omega) (by decide) (fun hc18 => ?_) (fun hc18 => ?_)
  · replace hF := hF.to (if_pos hc18)
    exact x_vret (S := xS) (post := (fun u : xS => XS G u ∧ FB (fun _ _ => False) V u.1 ∧ RK u.2.2 Rr ∧ (f_s_fillO x1 V J Rr) u)) (w1 := (fun u : xS => XW cy ad u.1 u.2.1 u.2.2)) C hr rfl dJ7_fill_d0a16_22 (V, J15, Rr) rfl ⟨⟨hI, hJ15, hR⟩, hB, (RK.rf _), hF _ rfl⟩
  · replace hF := hF.to (if_neg hc18)
    refine x_aload_n C.1 dJ7_fill_d0a16_12 2 rfl ?_
    refine x_iload_n C.1 dJ7_fill_d0a16_13 1 rfl ?_
    refine x_lload_n C.1 dJ7_fill_d0a16_14 3 rfl ?_
    refine x_last C (N := 129) (i := 128) (q := z14) (a := x1) (by decide) rfl (by omega) (by decide) dJ7_fill_d0a16_15 ?_
    refine x_gJ ?_
    intro J19 hJe19
    have hJ19 : VJ J19 := hJ15.upS hJe19 (by omega)
    replace hF := hF.to (rdb_e (z := J19) hJe19.symm)
    refine x_iinc C.1 (v := z14 + 1) (lv' := [(3, vI (z14 + 1)), (4, vI 13), (0, .ref (ad 128)), (1, vJ x1)]) (by omega) dJ7_fill_d0a16_16 1 rfl (by decide) rfl ?_
    refine x_goto C.1 (tgt := 6) dJ7_fill_d0a16_19 (by decide) ?_
    refine x_lv [(4, vI 13), (3, vI (z14 + 1)), (0, .ref (ad 128)), (1, vJ x1)] [1, 0, 2, 3] rfl ?_
    have hmu15 : (14 - (z14 + 1)).toNat < (14 - z14).toNat := (by omega)
    exact ih15 (z14 + 1, J19) ⟨⟨by omega, by omega⟩, hJ19, ⟨nf15, Nat.lt_of_lt_of_le hmu15 (Nat.le_of_lt_succ hn15), hF⟩⟩ hmu15
set_option maxRecDepth 100000 in
def f_s_fillW (k0 : Nat) (x1 : Int) (V : Nat → Nat → Int) (J : Nat → Nat → Int) (Rr : Nat → Nat → Nat) : (xS) → Prop :=
  lop2 (477) (fun rc15 (z14 : Int) (J15 : Nat → Nat → Int) => (if 475 ≤ z14 then rtn (V, J15, Rr) else rdb (up2 J15 k0 z14.toNat x1) fun J19 => rc15 (z14 + 1) J19)) 0 J
set_option maxHeartbeats 8000000 in
set_option maxRecDepth 100000 in
theorem s_fillW (l : Launch) (D : va_G) (cy : Nat → ClassId) (ad : Nat → Nat) (G : Nat → Nat → Int) (V J : Nat → Nat → Int) (Rr : Nat → Nat → Nat) (hI : XI G V) (hJ : VJ J) (hR : XR Rr) (k0 : Nat) (hk0 : isW k0) (x1 : Int) (bx1 : -9223372036854775808 ≤ x1 ∧ x1 ≤ 9223372036854775807) : xMv l D (xTY cy) yJ7_fill_d0a16 cJ7_fill_d0a16 5 none 0 0 0 0 [.ref (ad k0), vJ x1] (XW cy ad V J Rr) (fun u : xS => XW cy ad u.1 u.2.1 u.2.2) (fun u : xS => XS G u ∧ FB (fun _ _ => False) V u.1 ∧ RK u.2.2 Rr ∧ (f_s_fillW k0 x1 V J Rr) u) := by
  refine xMv.mk (lv0 := [(0, .ref (ad k0)), (1, vJ x1)]) (by decide) rfl (Nat.le_of_ble_eq_true rfl) (fun p e s m below meth c A C hr hnm hAe => ?_)
  have C : xC2 p s m _ meth c D A s.heap 5 cJ7_fill_d0a16 RJ7 (xTY cy) := C
  have hB : FB (fun _ _ => False) V V := FB.rf _ _
  have hF := Imp.of_eq (f_s_fillW.eq_def k0 x1 V J Rr)
  refine x_iconst C.1 (n := 0) dJ7_fill_d0a16_0 ?_
  refine x_istore_n C.1 (lv' := [(3, vI 0), (0, .ref (ad k0)), (1, vJ x1)]) dJ7_fill_d0a16_1 (by decide) rfl ?_
  refine x_aload_n C.1 dJ7_fill_d0a16_2 1 rfl ?_
  refine x_alenJ C (N := 129) (i := k0) (t := 1) rfl (by omega) (xd_Wt hk0) dJ7_fill_d0a16_3 ?_
  refine x_istore C.1 (lv' := [(4, vI 475), (3, vI 0), (0, .ref (ad k0)), (1, vJ x1)]) dJ7_fill_d0a16_4 (by decide) rfl ?_
  obtain ⟨bd15, hbd15, hF⟩ := lop2_ex hF
  refine x_loop (I := fun x : Int × (Nat → Nat → Int) => match x with | (z14, J15) => (0 ≤ z14 ∧ z14 ≤ 475) ∧ VJ J15 ∧ (∃ nf : Nat, (476 - z14).toNat < nf ∧ Imp (lop2 nf bd15 z14 J15) (f_s_fillW k0 x1 V J Rr))) (μ := fun x : Int × (Nat → Nat → Int) => match x with | (z14, J15) => (476 - z14).toNat) (wsf := fun x : Int × (Nat → Nat → Int) => match x with | (z14, J15) => XW cy ad V J15 Rr) (lvf := fun x : Int × (Nat → Nat → Int) => match x with | (z14, J15) => [(4, vI 475), (3, vI z14), (0, .ref (ad k0)), (1, vJ x1)]) (fun x hI15x ih15 => ?_) (0, J) ⟨⟨by decide, by decide⟩, hJ, ⟨_, (by omega), hF⟩⟩ rfl rfl
  obtain ⟨z14, J15⟩ := x
  obtain ⟨bz14, hJ15, nf15, hn15, hF⟩ := hI15x
  try dsimp only
  obtain ⟨nf15, rfl⟩ : ∃ mm, nf15 = mm + 1 := ⟨nf15 - 1, (Nat.succ_pred_eq_of_pos (Nat.lt_of_le_of_lt (Nat.zero_le _) hn15)).symm⟩
  replace hF := hF.to (lop2_s hbd15)
  refine x_iload_n C.1 dJ7_fill_d0a16_6 1 rfl ?_
  refine x_iload C.1 dJ7_fill_d0a16_7 0 rfl ?_
  refine x_icmp_ge C.1 (tgt := 22) dJ7_fill_d0a16_9 (by decide) (by omega) (by decide) (fun hc18 => ?_) (fun hc18 => ?_)
  · replace hF := hF.to (if_pos hc18)
    exact x_vret (S := xS) (post := (fun u : xS => XS G u ∧ FB (fun _ _ => False) V u.1 ∧ RK u.2.2 Rr ∧ (f_s_fillW k0 x1 V J Rr) u)) (w1 := (fun u : xS => XW cy ad u.1 u.2.1 u.2.2)) C hr rfl dJ7_fill_d0a16_22 (V, J15, Rr) rfl ⟨⟨hI, hJ15, hR⟩, hB, (RK.rf _), hF _ rfl⟩
  · replace hF := hF.to (if_neg hc18)
    refine x_aload_n C.1 dJ7_fill_d0a16_12 2 rfl ?_
    refine x_iload_n C.1 dJ7_fill_d0a16_13 1 rfl ?_
    refine x_lload_n C.1 dJ7_fill_d0a16_14 3 rfl ?_
    refine x_last C (N := 129) (i := k0) (q := z14) (a := x1) (by omega) (xd_Wt hk0) (by omega) (by decide) dJ7_fill_d0a16_15 ?_
    refine x_gJ ?_
    intro J19 hJe19
    have hJ19 : VJ J19 := hJ15.upS hJe19 (by omega)
    replace hF := hF.to (rdb_e (z := J19) hJe19.symm)
    refine x_iinc C.1 (v := z14 + 1) (lv' := [(3, vI (z14 + 1)), (4, vI 475), (0, .ref (ad k0)), (1, vJ x1)]) (by omega) dJ7_fill_d0a16_16 1 rfl (by decide) rfl ?_
    refine x_goto C.1 (tgt := 6) dJ7_fill_d0a16_19 (by decide) ?_
    refine x_lv [(4, vI 475), (3, vI (z14 + 1)), (0, .ref (ad k0)), (1, vJ x1)] [1, 0, 2, 3] rfl ?_
    have hmu15 : (476 - (z14 + 1)).toNat < (476 - z14).toNat := (by omega)
    exact ih15 (z14 + 1, J19) ⟨⟨by omega, by omega⟩, hJ19, ⟨nf15, Nat.lt_of_lt_of_le hmu15 (Nat.le_of_lt_succ hn15), hF⟩⟩ hmu15
end
